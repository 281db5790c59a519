/-! one turn, three turns, the law -/
def zIds (s : ZS) (k : Nat) : Nat → Int32 := fun j => if j < k then s.2.1 j else 0
section TURN
variable {g : q_G} {d mc ms : Nat} {Q : q_O → q_H → Prop} {s : ZS} {B : Nat}
set_option maxRecDepth 100000 in
theorem l_ids {t ri rj KC KS lc : Nat} {fl : Nat → Int32} (V : z_V B s) (hIJ : ri < rj) (hd : 30 ≤ d) (hKC : KC ≤ mc) (hKS : KS ≤ ms)
    (K : ∀ kc ks h, z_X h s lc fl → z_arr 0 h ri s.1 s.2.1 → z_arr 0 h rj s.1 (fun _ => 0) → kc ≤ KC → ks ≤ KS → q_W g mL_law d mc ms Q kc ks 82 [.ref 0, .ref 100, .int (nI t), .int (nI s.1), .int 0, .int 0, .int 0, .int 0, .int 0, .int (nI s.2.2.2.2.2.2.2.2.1), .ref ri, .ref rj, .int (nI s.1), q_u, q_u, q_u, q_u, q_u, q_u, q_u, q_u, q_u, q_u, q_u, q_u, q_u, q_u, q_u, q_u, q_u, q_u, q_u] [] h) :
    ∀ r k kc ks h, k + r = s.1 → z_X h s lc fl → z_arr 0 h ri s.1 (zIds s k) → z_arr 0 h rj s.1 (fun _ => 0) → kc + r ≤ KC → ks + 6 * r ≤ KS → q_W g mL_law d mc ms Q kc ks 59 [.ref 0, .ref 100, .int (nI t), .int (nI s.1), .int 0, .int 0, .int 0, .int 0, .int 0, .int (nI s.2.2.2.2.2.2.2.2.1), .ref ri, .ref rj, .int (nI k), q_u, q_u, q_u, q_u, q_u, q_u, q_u, q_u, q_u, q_u, q_u, q_u, q_u, q_u, q_u, q_u, q_u, q_u, q_u] [] h := by
  have h8 := V.1.1
  intro r
  induction r with
  | zero =>
    intro k kc ks h hr X A B hkc hks
    have e : k = s.1 := by omega
    subst e
    refine q_iload dL_law_59 rfl ?_
    refine q_iload_n dL_law_61 rfl ?_
    refine q_icmp_ge 82 dL_law_62 (by decide) (fun b => ?_) (fun b => absurd ((nI_leI (by omega) (by omega)).mpr (by omega)) b)
    exact K _ _ h X (A.eq (fun j hj => by unfold zIds; rw [if_pos hj])) B (by omega) (by omega)
  | succ r ih =>
    intro k kc ks h hr X A B hkc hks
    refine q_iload dL_law_59 rfl ?_
    refine q_iload_n dL_law_61 rfl ?_
    refine q_icmp_ge 82 dL_law_62 (by decide) (fun b => absurd ((nI_leI (by omega) (by omega)).mp b) (by omega)) (fun b => ?_)
    refine q_aload A.r0 dL_law_65 rfl ?_
    refine q_iload dL_law_67 rfl ?_
    refine q_aload_n (by decide) dL_law_69 rfl ?_
    refine q_iload dL_law_70 rfl ?_
    obtain ⟨fo1, ho1⟩ := X.obj
    refine q_invV (mc' := 1) (ms' := 6) (d' := d - 1) (as := [.int (nI k)]) dL_law_72 kM_X10_idAt kL_L_104 kI_X10_idAt kS_X10_idAt rfl (kC_X10.1) ho1 rfl rfl (Nat.le_of_ble_eq_true rfl) (by omega) (by decide) (by omega) (by omega) (k_idAt (d := d - 1) X V (k := k) (by omega) (by omega)) (q_kC (fun h1 hB => ?_)) q_xC
    obtain ⟨X1, z_1⟩ := hB
    have A_1 := A.zone z_1
    have B_1 := B.zone z_1
    change q_W _ _ _ _ _ _ _ _ 75 [.ref 0, .ref 100, .int (nI t), .int (nI s.1), .int 0, .int 0, .int 0, .int 0, .int 0, .int (nI s.2.2.2.2.2.2.2.2.1), .ref ri, .ref rj, .int (nI k), q_u, q_u, q_u, q_u, q_u, q_u, q_u, q_u, q_u, q_u, q_u, q_u, q_u, q_u, q_u, q_u, q_u, q_u, q_u] [.int (s.2.1 k), .int (nI k), .ref ri] _
    refine a_st X1 A_1 dL_law_75 (by omega) (by omega) (fun h9 X9 A9 o9 => ?_)
    have B9 := B_1.ow o9 (by omega)
    change q_W _ _ _ _ _ _ _ _ 76 [.ref 0, .ref 100, .int (nI t), .int (nI s.1), .int 0, .int 0, .int 0, .int 0, .int 0, .int (nI s.2.2.2.2.2.2.2.2.1), .ref ri, .ref rj, .int (nI k), q_u, q_u, q_u, q_u, q_u, q_u, q_u, q_u, q_u, q_u, q_u, q_u, q_u, q_u, q_u, q_u, q_u, q_u, q_u] [] _
    refine q_iinc (x := nI k) (v := nI (k + 1)) dL_law_76 rfl (nI_add _ 1) rfl ?_
    change q_W _ _ _ _ _ _ _ _ 79 [.ref 0, .ref 100, .int (nI t), .int (nI s.1), .int 0, .int 0, .int 0, .int 0, .int 0, .int (nI s.2.2.2.2.2.2.2.2.1), .ref ri, .ref rj, .int (nI (k + 1)), q_u, q_u, q_u, q_u, q_u, q_u, q_u, q_u, q_u, q_u, q_u, q_u, q_u, q_u, q_u, q_u, q_u, q_u, q_u] [] _
    refine q_goto 59 dL_law_79 (by decide) ?_
    refine ih (k + 1) _ _ h9 (by omega) X9 (A9.eq (fun j hj => ?_)) B9 (by omega) (by omega)
    unfold zIds
    by_cases q : j = k
    · subst q
      rw [upd_eq, if_pos (by omega)]
    · rw [upd_ne q]
      by_cases q2 : j < k
      · rw [if_pos q2, if_pos (by omega)]
      · rw [if_neg q2, if_neg (by omega)]
set_option maxRecDepth 100000 in
set_option maxHeartbeats 8000000 in
theorem l_turn {t KC KS : Nat} (ho : q_isold g 0) (hN : g.2.2.2.2.2.1 < 2 ^ 31) (ht : t < 3) (hd : 30 ≤ d) (hKC : KC ≤ mc) (hKS : KS ≤ ms) (hB : B ≤ 1000)
    (K : ∀ kc ks h s2 lc fl, z_X h s2 lc fl → z_V (B + 8) s2 → 4 ≤ s2.1 → s2.1 ≤ 7 → kc ≤ KC → ks ≤ KS → q_W g mL_law d mc ms Q kc ks 1587 [.ref 0, .ref 100, .int (nI t), q_u, q_u, q_u, q_u, q_u, q_u, q_u, q_u, q_u, q_u, q_u, q_u, q_u, q_u, q_u, q_u, q_u, q_u, q_u, q_u, q_u, q_u, q_u, q_u, q_u, q_u, q_u, q_u, q_u] [] h) :
    ∀ kc ks h s lc fl, z_X h s lc fl → z_V B s → 4 ≤ s.1 → s.1 ≤ 7 → kc + 6000 ≤ KC → ks + 400000 ≤ KS → q_W g mL_law d mc ms Q kc ks 20 [.ref 0, .ref 100, .int (nI t), q_u, q_u, q_u, q_u, q_u, q_u, q_u, q_u, q_u, q_u, q_u, q_u, q_u, q_u, q_u, q_u, q_u, q_u, q_u, q_u, q_u, q_u, q_u, q_u, q_u, q_u, q_u, q_u, q_u] [] h := by
  intro kc ks h s lc fl X V n4 n7 hkc hks
  have h8 := V.1.1
  have h12 := V.1.2.1
  have hp8 : 2 ^ s.1 ≤ 2 ^ 7 := Nat.pow_le_pow_right (by omega) n7
  have hp7 : (2 : Nat) ^ 7 = 128 := rfl
  have hp0 : 0 < 2 ^ s.1 := Nat.two_pow_pos _
  refine q_aload_n (by decide) dL_law_20 rfl ?_
  obtain ⟨fo1, ho1⟩ := X.obj
  refine q_invV (mc' := 0) (ms' := 0) (d' := d - 1) (as := []) dL_law_21 kM_X10_argumentCount kL_L_101 kI_X10_argumentCount kS_X10_argumentCount rfl (kC_X10.1) ho1 rfl rfl (Nat.le_of_ble_eq_true rfl) (by omega) (by decide) (by omega) (by omega) (k_argumentCount (d := d - 1) X V (by omega)) (q_kC (fun h1 hB => ?_)) q_xC
  obtain ⟨X1, z_1⟩ := hB
  change q_W _ _ _ _ _ _ _ _ 24 [.ref 0, .ref 100, .int (nI t), q_u, q_u, q_u, q_u, q_u, q_u, q_u, q_u, q_u, q_u, q_u, q_u, q_u, q_u, q_u, q_u, q_u, q_u, q_u, q_u, q_u, q_u, q_u, q_u, q_u, q_u, q_u, q_u, q_u] [.int (nI s.1)] _
  refine q_istore_n dL_law_24 (by decide) rfl ?_
  change q_W _ _ _ _ _ _ _ _ 25 [.ref 0, .ref 100, .int (nI t), .int (nI s.1), q_u, q_u, q_u, q_u, q_u, q_u, q_u, q_u, q_u, q_u, q_u, q_u, q_u, q_u, q_u, q_u, q_u, q_u, q_u, q_u, q_u, q_u, q_u, q_u, q_u, q_u, q_u, q_u] [] _
  refine q_iconst (v := 0) dL_law_25 rfl ?_
  refine q_istore dL_law_26 (by decide) rfl ?_
  change q_W _ _ _ _ _ _ _ _ 28 [.ref 0, .ref 100, .int (nI t), .int (nI s.1), .int 0, q_u, q_u, q_u, q_u, q_u, q_u, q_u, q_u, q_u, q_u, q_u, q_u, q_u, q_u, q_u, q_u, q_u, q_u, q_u, q_u, q_u, q_u, q_u, q_u, q_u, q_u, q_u] [] _
  refine q_iconst (v := 0) dL_law_28 rfl ?_
  refine q_istore dL_law_29 (by decide) rfl ?_
  change q_W _ _ _ _ _ _ _ _ 31 [.ref 0, .ref 100, .int (nI t), .int (nI s.1), .int 0, .int 0, q_u, q_u, q_u, q_u, q_u, q_u, q_u, q_u, q_u, q_u, q_u, q_u, q_u, q_u, q_u, q_u, q_u, q_u, q_u, q_u, q_u, q_u, q_u, q_u, q_u, q_u] [] _
  refine q_iconst (v := 0) dL_law_31 rfl ?_
  refine q_istore dL_law_32 (by decide) rfl ?_
  change q_W _ _ _ _ _ _ _ _ 34 [.ref 0, .ref 100, .int (nI t), .int (nI s.1), .int 0, .int 0, .int 0, q_u, q_u, q_u, q_u, q_u, q_u, q_u, q_u, q_u, q_u, q_u, q_u, q_u, q_u, q_u, q_u, q_u, q_u, q_u, q_u, q_u, q_u, q_u, q_u, q_u] [] _
  refine q_iconst (v := 0) dL_law_34 rfl ?_
  refine q_istore dL_law_35 (by decide) rfl ?_
  change q_W _ _ _ _ _ _ _ _ 37 [.ref 0, .ref 100, .int (nI t), .int (nI s.1), .int 0, .int 0, .int 0, .int 0, q_u, q_u, q_u, q_u, q_u, q_u, q_u, q_u, q_u, q_u, q_u, q_u, q_u, q_u, q_u, q_u, q_u, q_u, q_u, q_u, q_u, q_u, q_u, q_u] [] _
  refine q_iconst (v := 0) dL_law_37 rfl ?_
  refine q_istore dL_law_38 (by decide) rfl ?_
  change q_W _ _ _ _ _ _ _ _ 40 [.ref 0, .ref 100, .int (nI t), .int (nI s.1), .int 0, .int 0, .int 0, .int 0, .int 0, q_u, q_u, q_u, q_u, q_u, q_u, q_u, q_u, q_u, q_u, q_u, q_u, q_u, q_u, q_u, q_u, q_u, q_u, q_u, q_u, q_u, q_u, q_u] [] _
  refine q_aload_n (by decide) dL_law_40 rfl ?_
  obtain ⟨fo2, ho2⟩ := X1.obj
  refine q_invV (mc' := 0) (ms' := 0) (d' := d - 1) (as := []) dL_law_41 kM_X10_moveCount kL_L_145 kI_X10_moveCount kS_X10_moveCount rfl (kC_X10.1) ho2 rfl rfl (Nat.le_of_ble_eq_true rfl) (by omega) (by decide) (by omega) (by omega) (k_moveCount (d := d - 1) X1 V (by omega)) (q_kC (fun h2 hB => ?_)) q_xC
  obtain ⟨X2, z_2⟩ := hB
  change q_W _ _ _ _ _ _ _ _ 44 [.ref 0, .ref 100, .int (nI t), .int (nI s.1), .int 0, .int 0, .int 0, .int 0, .int 0, q_u, q_u, q_u, q_u, q_u, q_u, q_u, q_u, q_u, q_u, q_u, q_u, q_u, q_u, q_u, q_u, q_u, q_u, q_u, q_u, q_u, q_u, q_u] [.int (nI s.2.2.2.2.2.2.2.2.1)] _
  refine q_istore dL_law_44 (by decide) rfl ?_
  change q_W _ _ _ _ _ _ _ _ 46 [.ref 0, .ref 100, .int (nI t), .int (nI s.1), .int 0, .int 0, .int 0, .int 0, .int 0, .int (nI s.2.2.2.2.2.2.2.2.1), q_u, q_u, q_u, q_u, q_u, q_u, q_u, q_u, q_u, q_u, q_u, q_u, q_u, q_u, q_u, q_u, q_u, q_u, q_u, q_u, q_u, q_u] [] _
  refine q_iload_n dL_law_46 rfl ?_
  refine a_new X2 dL_law_47 (by omega) (by omega) (by omega) (fun h3 ri X3 A_3 o_3 lo_3 gr_3 => ?_)
  change q_W _ _ _ _ _ _ _ _ 49 [.ref 0, .ref 100, .int (nI t), .int (nI s.1), .int 0, .int 0, .int 0, .int 0, .int 0, .int (nI s.2.2.2.2.2.2.2.2.1), q_u, q_u, q_u, q_u, q_u, q_u, q_u, q_u, q_u, q_u, q_u, q_u, q_u, q_u, q_u, q_u, q_u, q_u, q_u, q_u, q_u, q_u] [.ref ri] _
  refine q_astore A_3.r0 dL_law_49 (by decide) rfl ?_
  change q_W _ _ _ _ _ _ _ _ 51 [.ref 0, .ref 100, .int (nI t), .int (nI s.1), .int 0, .int 0, .int 0, .int 0, .int 0, .int (nI s.2.2.2.2.2.2.2.2.1), .ref ri, q_u, q_u, q_u, q_u, q_u, q_u, q_u, q_u, q_u, q_u, q_u, q_u, q_u, q_u, q_u, q_u, q_u, q_u, q_u, q_u, q_u] [] _
  refine q_iload_n dL_law_51 rfl ?_
  refine a_new X3 dL_law_52 (by omega) (by omega) (by omega) (fun h4 rj X4 B_4 o_4 lo_4 gr_4 => ?_)
  have lt_A_3_4 := A_3.lt
  have A_4 := A_3.on o_4 (by omega)
  change q_W _ _ _ _ _ _ _ _ 54 [.ref 0, .ref 100, .int (nI t), .int (nI s.1), .int 0, .int 0, .int 0, .int 0, .int 0, .int (nI s.2.2.2.2.2.2.2.2.1), .ref ri, q_u, q_u, q_u, q_u, q_u, q_u, q_u, q_u, q_u, q_u, q_u, q_u, q_u, q_u, q_u, q_u, q_u, q_u, q_u, q_u, q_u] [.ref rj] _
  refine q_astore B_4.r0 dL_law_54 (by decide) rfl ?_
  change q_W _ _ _ _ _ _ _ _ 56 [.ref 0, .ref 100, .int (nI t), .int (nI s.1), .int 0, .int 0, .int 0, .int 0, .int 0, .int (nI s.2.2.2.2.2.2.2.2.1), .ref ri, .ref rj, q_u, q_u, q_u, q_u, q_u, q_u, q_u, q_u, q_u, q_u, q_u, q_u, q_u, q_u, q_u, q_u, q_u, q_u, q_u, q_u] [] _
  have hA0 := A_4.lt
  have hIJ : ri < rj := by omega
  refine q_iconst (v := 0) dL_law_56 rfl ?_
  refine q_istore dL_law_57 (by decide) rfl ?_
  change q_W _ _ _ _ _ _ _ _ 59 [.ref 0, .ref 100, .int (nI t), .int (nI s.1), .int 0, .int 0, .int 0, .int 0, .int 0, .int (nI s.2.2.2.2.2.2.2.2.1), .ref ri, .ref rj, .int 0, q_u, q_u, q_u, q_u, q_u, q_u, q_u, q_u, q_u, q_u, q_u, q_u, q_u, q_u, q_u, q_u, q_u, q_u, q_u] [] _
  refine l_ids (t := t) (KC := kc + 50) (KS := ks + 200) V hIJ hd (by omega) (by omega) (fun kc1 ks1 h X A B hkc1 hks1 => ?_) s.1 0 _ _ _ (by omega) X4 (A_4.eq (fun j hj => by unfold zIds; rw [if_neg (by omega)])) B_4 (by omega) (by omega)
  refine q_iconst (v := 0) dL_law_82 rfl ?_
  refine q_istore dL_law_83 (by decide) rfl ?_
  change q_W _ _ _ _ _ _ _ _ 85 [.ref 0, .ref 100, .int (nI t), .int (nI s.1), .int 0, .int 0, .int 0, .int 0, .int 0, .int (nI s.2.2.2.2.2.2.2.2.1), .ref ri, .ref rj, .int 0, q_u, q_u, q_u, q_u, q_u, q_u, q_u, q_u, q_u, q_u, q_u, q_u, q_u, q_u, q_u, q_u, q_u, q_u, q_u] [] _
  refine l_args (t := t) (a9 := s.2.2.2.2.2.2.2.2.1) (ri := ri) (rj := rj) (KC := kc + 3600) (KS := ks + 280300) V hB ho hIJ hd (by omega) (by omega) (fun kc2 ks2 h lc fl X A B hkc2 hks2 => ?_) s.1 0 _ _ h lc fl (by omega) X A (B.eq (fun i _ => (zBy_0 (s := s) i).symm)) (by omega) (by omega)
  refine q_iconst (v := 0) dL_law_471 rfl ?_
  refine q_istore dL_law_472 (by decide) rfl ?_
  change q_W _ _ _ _ _ _ _ _ 474 [.ref 0, .ref 100, .int (nI t), .int (nI s.1), .int (nI (zAs s s.1)), .int (nI (zWs s s.1)), .int 0, .int 0, .int (zTs s s.1), .int (nI s.2.2.2.2.2.2.2.2.1), .ref ri, .ref rj, .int 0, q_u, q_u, q_u, q_u, q_u, q_u, q_u, q_u, q_u, q_u, q_u, q_u, q_u, q_u, q_u, q_u, q_u, q_u, q_u] [] _
  refine q_iconst (v := 0) dL_law_474 rfl ?_
  refine q_istore dL_law_475 (by decide) rfl ?_
  change q_W _ _ _ _ _ _ _ _ 477 [.ref 0, .ref 100, .int (nI t), .int (nI s.1), .int (nI (zAs s s.1)), .int (nI (zWs s s.1)), .int 0, .int 0, .int (zTs s s.1), .int (nI s.2.2.2.2.2.2.2.2.1), .ref ri, .ref rj, .int 0, .int 0, q_u, q_u, q_u, q_u, q_u, q_u, q_u, q_u, q_u, q_u, q_u, q_u, q_u, q_u, q_u, q_u, q_u, q_u] [] _
  refine q_iconst (v := 0) dL_law_477 rfl ?_
  refine q_istore dL_law_478 (by decide) rfl ?_
  change q_W _ _ _ _ _ _ _ _ 480 [.ref 0, .ref 100, .int (nI t), .int (nI s.1), .int (nI (zAs s s.1)), .int (nI (zWs s s.1)), .int 0, .int 0, .int (zTs s s.1), .int (nI s.2.2.2.2.2.2.2.2.1), .ref ri, .ref rj, .int 0, .int 0, .int 0, q_u, q_u, q_u, q_u, q_u, q_u, q_u, q_u, q_u, q_u, q_u, q_u, q_u, q_u, q_u, q_u, q_u] [] _
  refine l_lab (t := t) (na := zAs s s.1) (nb := zWs s s.1) (a9 := s.2.2.2.2.2.2.2.2.1) (ri := ri) (rj := rj) (a8 := zTs s s.1) (KC := kc + 3700) (KS := ks + 280400) V ho hd (by omega) (by omega) (fun kc3 ks3 h lc fl X A B hkc3 hks3 => ?_) s.1 0 _ _ h lc fl 0 0 0 0 (by omega) X A B rfl rfl rfl rfl (by omega) (by omega)
  refine q_iconst (v := 0) dL_law_577 rfl ?_
  refine q_istore dL_law_578 (by decide) rfl ?_
  change q_W _ _ _ _ _ _ _ _ 580 [.ref 0, .ref 100, .int (nI t), .int (nI s.1), .int (nI (zAs s s.1)), .int (nI (zWs s s.1)), .int (nI (z_cn (zAc s) s.1)), .int (nI (s.1 - z_cn (zAc s ||| zRj s) s.1)), .int (zTs s s.1), .int (nI s.2.2.2.2.2.2.2.2.1), .ref ri, .ref rj, .int (zAc s), .int (zRj s), .int 0, q_u, q_u, q_u, q_u, q_u, q_u, q_u, q_u, q_u, q_u, q_u, q_u, q_u, q_u, q_u, q_u, q_u] [] _
  refine q_iconst (v := 0) dL_law_580 rfl ?_
  refine q_istore dL_law_581 (by decide) rfl ?_
  change q_W _ _ _ _ _ _ _ _ 583 [.ref 0, .ref 100, .int (nI t), .int (nI s.1), .int (nI (zAs s s.1)), .int (nI (zWs s s.1)), .int (nI (z_cn (zAc s) s.1)), .int (nI (s.1 - z_cn (zAc s ||| zRj s) s.1)), .int (zTs s s.1), .int (nI s.2.2.2.2.2.2.2.2.1), .ref ri, .ref rj, .int (zAc s), .int (zRj s), .int 0, .int 0, q_u, q_u, q_u, q_u, q_u, q_u, q_u, q_u, q_u, q_u, q_u, q_u, q_u, q_u, q_u, q_u] [] _
  refine q_iconst (v := 0) dL_law_583 rfl ?_
  refine q_istore dL_law_584 (by decide) rfl ?_
  change q_W _ _ _ _ _ _ _ _ 586 [.ref 0, .ref 100, .int (nI t), .int (nI s.1), .int (nI (zAs s s.1)), .int (nI (zWs s s.1)), .int (nI (z_cn (zAc s) s.1)), .int (nI (s.1 - z_cn (zAc s ||| zRj s) s.1)), .int (zTs s s.1), .int (nI s.2.2.2.2.2.2.2.2.1), .ref ri, .ref rj, .int (zAc s), .int (zRj s), .int 0, .int 0, .int 0, q_u, q_u, q_u, q_u, q_u, q_u, q_u, q_u, q_u, q_u, q_u, q_u, q_u, q_u, q_u] [] _
  refine q_iconst (v := 0) dL_law_586 rfl ?_
  refine q_istore dL_law_587 (by decide) rfl ?_
  change q_W _ _ _ _ _ _ _ _ 589 [.ref 0, .ref 100, .int (nI t), .int (nI s.1), .int (nI (zAs s s.1)), .int (nI (zWs s s.1)), .int (nI (z_cn (zAc s) s.1)), .int (nI (s.1 - z_cn (zAc s ||| zRj s) s.1)), .int (zTs s s.1), .int (nI s.2.2.2.2.2.2.2.2.1), .ref ri, .ref rj, .int (zAc s), .int (zRj s), .int 0, .int 0, .int 0, .int 0, q_u, q_u, q_u, q_u, q_u, q_u, q_u, q_u, q_u, q_u, q_u, q_u, q_u, q_u] [] _
  refine q_iconst (v := 1) dL_law_589 rfl ?_
  refine q_iload_n dL_law_590 rfl ?_
  refine q_shl1N (a := s.1) (by omega) dL_law_591 ?_
  refine q_iconst (v := 1) dL_law_592 rfl ?_
  refine q_isubN (a := 2 ^ s.1) (b := 1) (by omega) dL_law_593 ?_
  refine q_istore dL_law_594 (by decide) rfl ?_
  change q_W _ _ _ _ _ _ _ _ 596 [.ref 0, .ref 100, .int (nI t), .int (nI s.1), .int (nI (zAs s s.1)), .int (nI (zWs s s.1)), .int (nI (z_cn (zAc s) s.1)), .int (nI (s.1 - z_cn (zAc s ||| zRj s) s.1)), .int (zTs s s.1), .int (nI s.2.2.2.2.2.2.2.2.1), .ref ri, .ref rj, .int (zAc s), .int (zRj s), .int 0, .int 0, .int 0, .int 0, .int (nI (2 ^ s.1 - 1)), q_u, q_u, q_u, q_u, q_u, q_u, q_u, q_u, q_u, q_u, q_u, q_u, q_u] [] _
  refine q_iconst (v := 1) dL_law_596 rfl ?_
  refine q_iload_n dL_law_597 rfl ?_
  refine q_shl1N (a := s.1) (by omega) dL_law_598 ?_
  refine a_newZ X dL_law_599 (by omega) (by omega) (by omega) (fun h5 rg X5 G_5 o_5 lo_5 gr_5 => ?_)
  have lt_A_5 := A.lt
  have A_5 := A.on o_5 (by omega)
  have lt_B_5 := B.lt
  have B_5 := B.on o_5 (by omega)
  change q_W _ _ _ _ _ _ _ _ 601 [.ref 0, .ref 100, .int (nI t), .int (nI s.1), .int (nI (zAs s s.1)), .int (nI (zWs s s.1)), .int (nI (z_cn (zAc s) s.1)), .int (nI (s.1 - z_cn (zAc s ||| zRj s) s.1)), .int (zTs s s.1), .int (nI s.2.2.2.2.2.2.2.2.1), .ref ri, .ref rj, .int (zAc s), .int (zRj s), .int 0, .int 0, .int 0, .int 0, .int (nI (2 ^ s.1 - 1)), q_u, q_u, q_u, q_u, q_u, q_u, q_u, q_u, q_u, q_u, q_u, q_u, q_u] [.ref rg] _
  refine q_astore G_5.r0 dL_law_601 (by decide) rfl ?_
  change q_W _ _ _ _ _ _ _ _ 603 [.ref 0, .ref 100, .int (nI t), .int (nI s.1), .int (nI (zAs s s.1)), .int (nI (zWs s s.1)), .int (nI (z_cn (zAc s) s.1)), .int (nI (s.1 - z_cn (zAc s ||| zRj s) s.1)), .int (zTs s s.1), .int (nI s.2.2.2.2.2.2.2.2.1), .ref ri, .ref rj, .int (zAc s), .int (zRj s), .int 0, .int 0, .int 0, .int 0, .int (nI (2 ^ s.1 - 1)), .ref rg, q_u, q_u, q_u, q_u, q_u, q_u, q_u, q_u, q_u, q_u, q_u, q_u] [] _
  refine q_iconst (v := 0) dL_law_603 rfl ?_
  refine q_istore dL_law_604 (by decide) rfl ?_
  change q_W _ _ _ _ _ _ _ _ 606 [.ref 0, .ref 100, .int (nI t), .int (nI s.1), .int (nI (zAs s s.1)), .int (nI (zWs s s.1)), .int (nI (z_cn (zAc s) s.1)), .int (nI (s.1 - z_cn (zAc s ||| zRj s) s.1)), .int (zTs s s.1), .int (nI s.2.2.2.2.2.2.2.2.1), .ref ri, .ref rj, .int (zAc s), .int (zRj s), .int 0, .int 0, .int 0, .int 0, .int (nI (2 ^ s.1 - 1)), .ref rg, .int 0, q_u, q_u, q_u, q_u, q_u, q_u, q_u, q_u, q_u, q_u, q_u] [] _
  have hIJ2 : ri < rj ∧ rj < rg := by omega
  refine l_sets (t := t) (na := zAs s s.1) (nb := zWs s s.1) (a9 := s.2.2.2.2.2.2.2.2.1) (p := z_cn (zAc s) s.1) (u := s.1 - z_cn (zAc s ||| zRj s) s.1) (ri := ri) (rj := rj) (rg := rg) (a8 := zTs s s.1) (xin := zAc s) (xout := zRj s) (ST := x_mo_stableCount_9 (zAl s) s.1 (2 ^ s.1) 0 0) (GR := x_ex_sizeOfGreatestAdmissible_10 s.1 s.2.2.2.2.2.1 (2 ^ s.1) 0 0) V hd hIJ2 (by omega) (by omega) (fun h lc fl X A B G => ?_) (2 ^ s.1) 0 _ lc fl 0 0 (by omega) X5 A_5 B_5 (G_5.eq (fun j hj => by unfold zGd; rw [if_neg (by omega)])) rfl rfl
  refine q_aload_nO ho dL_law_774 rfl ?_
  refine q_bipush (v := 100) dL_law_775 rfl ?_
  refine q_iload_n dL_law_777 rfl ?_
  refine q_iaddN (a := 100) (b := t) dL_law_778 ?_
  refine q_iload_n dL_law_779 rfl ?_
  obtain ⟨m6, hm6, sp6⟩ := e_some (g := g) (d := d - 1) (h := h) (k := 100 + t) (n := s.1) ho hN (by omega) (by omega) (by omega) (by omega)
  refine q_invS (mc' := 0) (ms' := 0) (d' := d - 1) (as := [.ref 0, .int (nI (100 + t)), .int (nI s.1)]) dL_law_780 kM_L_some kL_L_87 kT_L_some rfl rfl rfl (Nat.le_of_ble_eq_true rfl) (by omega) (by decide) (by omega) (by omega) (sp6) (q_kR ?_) q_xR
  change q_W _ _ _ _ _ _ _ _ 783 [.ref 0, .ref 100, .int (nI t), .int (nI s.1), .int (nI (zAs s s.1)), .int (nI (zWs s s.1)), .int (nI (z_cn (zAc s) s.1)), .int (nI (s.1 - z_cn (zAc s ||| zRj s) s.1)), .int (zTs s s.1), .int (nI s.2.2.2.2.2.2.2.2.1), .ref ri, .ref rj, .int (zAc s), .int (zRj s), .int (x_mo_stableCount_9 (zAl s) s.1 (2 ^ s.1) 0 0), .int 0, .int (x_ex_sizeOfGreatestAdmissible_10 s.1 s.2.2.2.2.2.1 (2 ^ s.1) 0 0), .int 0, .int (nI (2 ^ s.1 - 1)), .ref rg, q_u, q_u, q_u, q_u, q_u, q_u, q_u, q_u, q_u, q_u, q_u, q_u] [.int (nI m6)] _
  refine q_istore dL_law_783 (by decide) rfl ?_
  change q_W _ _ _ _ _ _ _ _ 785 [.ref 0, .ref 100, .int (nI t), .int (nI s.1), .int (nI (zAs s s.1)), .int (nI (zWs s s.1)), .int (nI (z_cn (zAc s) s.1)), .int (nI (s.1 - z_cn (zAc s ||| zRj s) s.1)), .int (zTs s s.1), .int (nI s.2.2.2.2.2.2.2.2.1), .ref ri, .ref rj, .int (zAc s), .int (zRj s), .int (x_mo_stableCount_9 (zAl s) s.1 (2 ^ s.1) 0 0), .int 0, .int (x_ex_sizeOfGreatestAdmissible_10 s.1 s.2.2.2.2.2.1 (2 ^ s.1) 0 0), .int 0, .int (nI (2 ^ s.1 - 1)), .ref rg, .int (nI m6), q_u, q_u, q_u, q_u, q_u, q_u, q_u, q_u, q_u, q_u, q_u] [] _
  refine q_aload_nO ho dL_law_785 rfl ?_
  refine q_bipush (v := 104) dL_law_786 rfl ?_
  refine q_iload_n dL_law_788 rfl ?_
  refine q_iaddN (a := 104) (b := t) dL_law_789 ?_
  refine q_iload_n dL_law_790 rfl ?_
  obtain ⟨m8, hm8, sp8⟩ := e_some (g := g) (d := d - 1) (h := h) (k := 104 + t) (n := s.1) ho hN (by omega) (by omega) (by omega) (by omega)
  refine q_invS (mc' := 0) (ms' := 0) (d' := d - 1) (as := [.ref 0, .int (nI (104 + t)), .int (nI s.1)]) dL_law_791 kM_L_some kL_L_87 kT_L_some rfl rfl rfl (Nat.le_of_ble_eq_true rfl) (by omega) (by decide) (by omega) (by omega) (sp8) (q_kR ?_) q_xR
  change q_W _ _ _ _ _ _ _ _ 794 [.ref 0, .ref 100, .int (nI t), .int (nI s.1), .int (nI (zAs s s.1)), .int (nI (zWs s s.1)), .int (nI (z_cn (zAc s) s.1)), .int (nI (s.1 - z_cn (zAc s ||| zRj s) s.1)), .int (zTs s s.1), .int (nI s.2.2.2.2.2.2.2.2.1), .ref ri, .ref rj, .int (zAc s), .int (zRj s), .int (x_mo_stableCount_9 (zAl s) s.1 (2 ^ s.1) 0 0), .int 0, .int (x_ex_sizeOfGreatestAdmissible_10 s.1 s.2.2.2.2.2.1 (2 ^ s.1) 0 0), .int 0, .int (nI (2 ^ s.1 - 1)), .ref rg, .int (nI m6), q_u, q_u, q_u, q_u, q_u, q_u, q_u, q_u, q_u, q_u, q_u] [.int (nI m8)] _
  refine q_istore dL_law_794 (by decide) rfl ?_
  change q_W _ _ _ _ _ _ _ _ 796 [.ref 0, .ref 100, .int (nI t), .int (nI s.1), .int (nI (zAs s s.1)), .int (nI (zWs s s.1)), .int (nI (z_cn (zAc s) s.1)), .int (nI (s.1 - z_cn (zAc s ||| zRj s) s.1)), .int (zTs s s.1), .int (nI s.2.2.2.2.2.2.2.2.1), .ref ri, .ref rj, .int (zAc s), .int (zRj s), .int (x_mo_stableCount_9 (zAl s) s.1 (2 ^ s.1) 0 0), .int 0, .int (x_ex_sizeOfGreatestAdmissible_10 s.1 s.2.2.2.2.2.1 (2 ^ s.1) 0 0), .int 0, .int (nI (2 ^ s.1 - 1)), .ref rg, .int (nI m6), .int (nI m8), q_u, q_u, q_u, q_u, q_u, q_u, q_u, q_u, q_u, q_u] [] _
  refine q_iconst (v := 0) dL_law_796 rfl ?_
  refine q_istore dL_law_797 (by decide) rfl ?_
  change q_W _ _ _ _ _ _ _ _ 799 [.ref 0, .ref 100, .int (nI t), .int (nI s.1), .int (nI (zAs s s.1)), .int (nI (zWs s s.1)), .int (nI (z_cn (zAc s) s.1)), .int (nI (s.1 - z_cn (zAc s ||| zRj s) s.1)), .int (zTs s s.1), .int (nI s.2.2.2.2.2.2.2.2.1), .ref ri, .ref rj, .int (zAc s), .int (zRj s), .int (x_mo_stableCount_9 (zAl s) s.1 (2 ^ s.1) 0 0), .int 0, .int (x_ex_sizeOfGreatestAdmissible_10 s.1 s.2.2.2.2.2.1 (2 ^ s.1) 0 0), .int 0, .int (nI (2 ^ s.1 - 1)), .ref rg, .int (nI m6), .int (nI m8), .int 0, q_u, q_u, q_u, q_u, q_u, q_u, q_u, q_u, q_u] [] _
  refine q_iconst (v := 0) dL_law_799 rfl ?_
  refine q_istore dL_law_800 (by decide) rfl ?_
  change q_W _ _ _ _ _ _ _ _ 802 [.ref 0, .ref 100, .int (nI t), .int (nI s.1), .int (nI (zAs s s.1)), .int (nI (zWs s s.1)), .int (nI (z_cn (zAc s) s.1)), .int (nI (s.1 - z_cn (zAc s ||| zRj s) s.1)), .int (zTs s s.1), .int (nI s.2.2.2.2.2.2.2.2.1), .ref ri, .ref rj, .int (zAc s), .int (zRj s), .int (x_mo_stableCount_9 (zAl s) s.1 (2 ^ s.1) 0 0), .int 0, .int (x_ex_sizeOfGreatestAdmissible_10 s.1 s.2.2.2.2.2.1 (2 ^ s.1) 0 0), .int 0, .int (nI (2 ^ s.1 - 1)), .ref rg, .int (nI m6), .int (nI m8), .int 0, .int 0, q_u, q_u, q_u, q_u, q_u, q_u, q_u, q_u] [] _
  refine l_prfs (t := t) (na := zAs s s.1) (nb := zWs s s.1) (a9 := s.2.2.2.2.2.2.2.2.1) (p := z_cn (zAc s) s.1) (u := s.1 - z_cn (zAc s ||| zRj s) s.1) (ri := ri) (rj := rj) (rg := rg) (a8 := zTs s s.1) (m1 := m6) (m2 := m8) (xin := zAc s) (xout := zRj s) (st := x_mo_stableCount_9 (zAl s) s.1 (2 ^ s.1) 0 0) (gr := x_ex_sizeOfGreatestAdmissible_10 s.1 s.2.2.2.2.2.1 (2 ^ s.1) 0 0) V hm6 hm8 G ?_ (2 ^ s.1) 0 0 0 (nI (2 ^ s.1 - 1)) 0 (by omega) rfl rfl rfl rfl
  refine q_iconst (v := 0) dL_law_930 rfl ?_
  refine q_istore dL_law_931 (by decide) rfl ?_
  change q_W _ _ _ _ _ _ _ _ 933 [.ref 0, .ref 100, .int (nI t), .int (nI s.1), .int (nI (zAs s s.1)), .int (nI (zWs s s.1)), .int (nI (z_cn (zAc s) s.1)), .int (nI (s.1 - z_cn (zAc s ||| zRj s) s.1)), .int (zTs s s.1), .int (nI s.2.2.2.2.2.2.2.2.1), .ref ri, .ref rj, .int (zAc s), .int (zRj s), .int (x_mo_stableCount_9 (zAl s) s.1 (2 ^ s.1) 0 0), .int (nI (z_cnt (zPb s) (2 ^ s.1))), .int (x_ex_sizeOfGreatestAdmissible_10 s.1 s.2.2.2.2.2.1 (2 ^ s.1) 0 0), .int (zCd s (2 ^ s.1)), .int (zCt s (2 ^ s.1)), .ref rg, .int (nI m6), .int (nI m8), .int (z_b (zTg s m6 m8 (2 ^ s.1))), .int 0, q_u, q_u, q_u, q_u, q_u, q_u, q_u, q_u] [] _
  refine l_chk (t := t) (na := zAs s s.1) (nb := zWs s s.1) (a9 := s.2.2.2.2.2.2.2.2.1) (p := z_cn (zAc s) s.1) (u := s.1 - z_cn (zAc s ||| zRj s) s.1) (ri := ri) (rj := rj) (rg := rg) (a8 := zTs s s.1) (m1 := m6) (m2 := m8) (pv := z_cnt (zPb s) (2 ^ s.1)) (st := x_mo_stableCount_9 (zAl s) s.1 (2 ^ s.1) 0 0) (gr := x_ex_sizeOfGreatestAdmissible_10 s.1 s.2.2.2.2.2.1 (2 ^ s.1) 0 0) (tg := z_b (zTg s m6 m8 (2 ^ s.1))) (KC := kc + 4000) (KS := ks + 282000) V (by omega) hd (by omega) (by omega) (fun kc4 ks4 h X A hkc4 hks4 => ?_) s.1 0 _ _ h (by omega) X A B (by omega) (by omega)
  refine q_ldcS (k := 0) (by decide) rfl rfl dL_law_1268 ?_
  refine q_astoreS (Or.inl (by omega)) dL_law_1270 (by decide) rfl ?_
  change q_W _ _ _ _ _ _ _ _ 1272 [.ref 0, .ref 100, .int (nI t), .int (nI s.1), .int (nI (zAs s s.1)), .int (nI (zWs s s.1)), .int (nI (z_cn (zAc s) s.1)), .int (nI (s.1 - z_cn (zAc s ||| zRj s) s.1)), .int (zTs s s.1), .int (nI s.2.2.2.2.2.2.2.2.1), .ref ri, .ref rj, .int (zAc s), .int (zRj s), .int (x_mo_stableCount_9 (zAl s) s.1 (2 ^ s.1) 0 0), .int (nI (z_cnt (zPb s) (2 ^ s.1))), .int (x_ex_sizeOfGreatestAdmissible_10 s.1 s.2.2.2.2.2.1 (2 ^ s.1) 0 0), .int (zCd s (2 ^ s.1)), .int (zCt s (2 ^ s.1)), .ref rg, .int (nI m6), .int (nI m8), .int (z_b (zTg s m6 m8 (2 ^ s.1))), .ref 14, q_u, q_u, q_u, q_u, q_u, q_u, q_u, q_u] [] _
  refine q_iconst (v := 0) dL_law_1272 rfl ?_
  refine q_istore dL_law_1273 (by decide) rfl ?_
  change q_W _ _ _ _ _ _ _ _ 1275 [.ref 0, .ref 100, .int (nI t), .int (nI s.1), .int (nI (zAs s s.1)), .int (nI (zWs s s.1)), .int (nI (z_cn (zAc s) s.1)), .int (nI (s.1 - z_cn (zAc s ||| zRj s) s.1)), .int (zTs s s.1), .int (nI s.2.2.2.2.2.2.2.2.1), .ref ri, .ref rj, .int (zAc s), .int (zRj s), .int (x_mo_stableCount_9 (zAl s) s.1 (2 ^ s.1) 0 0), .int (nI (z_cnt (zPb s) (2 ^ s.1))), .int (x_ex_sizeOfGreatestAdmissible_10 s.1 s.2.2.2.2.2.1 (2 ^ s.1) 0 0), .int (zCd s (2 ^ s.1)), .int (zCt s (2 ^ s.1)), .ref rg, .int (nI m6), .int (nI m8), .int (z_b (zTg s m6 m8 (2 ^ s.1))), .ref 14, .int 0, q_u, q_u, q_u, q_u, q_u, q_u, q_u] [] _
  have hAl := A.lt
  refine l_dlg (t := t) (na := zAs s s.1) (nb := zWs s s.1) (a9 := s.2.2.2.2.2.2.2.2.1) (p := z_cn (zAc s) s.1) (u := s.1 - z_cn (zAc s ||| zRj s) s.1) (ri := ri) (rj := rj) (rg := rg) (a8 := zTs s s.1) (m1 := m6) (m2 := m8) (pv := z_cnt (zPb s) (2 ^ s.1)) (st := x_mo_stableCount_9 (zAl s) s.1 (2 ^ s.1) 0 0) (gr := x_ex_sizeOfGreatestAdmissible_10 s.1 s.2.2.2.2.2.1 (2 ^ s.1) 0 0) (tg := z_b (zTg s m6 m8 (2 ^ s.1))) (KC := kc + 4300) (KS := ks + 307000) V hB hd (by omega) (by omega) (fun kc5 ks5 h rs vs X A S hkc5 hks5 => ?_) s.2.2.2.2.2.2.2.2.1 0 _ _ h 14 25 [] (by omega) X A (z_Tx.const X 0 (ri + 1) (by decide)) rfl (by omega) (by omega)
  refine l_dline (t := t) (na := zAs s s.1) (nb := zWs s s.1) (a9 := s.2.2.2.2.2.2.2.2.1) (p := z_cn (zAc s) s.1) (u := s.1 - z_cn (zAc s ||| zRj s) s.1) (ri := ri) (rj := rj) (rg := rg) (a8 := zTs s s.1) (m1 := m6) (m2 := m8) (pv := z_cnt (zPb s) (2 ^ s.1)) (st := x_mo_stableCount_9 (zAl s) s.1 (2 ^ s.1) 0 0) (gr := x_ex_sizeOfGreatestAdmissible_10 s.1 s.2.2.2.2.2.1 (2 ^ s.1) 0 0) (tg := z_b (zTg s m6 m8 (2 ^ s.1))) (KC := kc + 4600) (KS := ks + 320000) V hB hd (by omega) (by omega) (fun kc6 ks6 h lc fl X A hkc6 hks6 => ?_) _ _ h rs vs X A S (by omega) (by omega)
  exact l_fin (t := t) (ri := ri) (rj := rj) (rg := rg) (m1 := m6) (m2 := m8) (KC := kc + 6000) (KS := ks + 400000) V hB ⟨n4, n7⟩ ho hN (by omega) hm6 hm8 hd (by omega) (by omega) (fun kc7 ks7 h s2 lc fl X V a b c d => K kc7 ks7 h s2 lc fl X V a b (by omega) (by omega)) _ _ h X A (by omega) (by omega)
set_option maxRecDepth 100000 in
theorem l_turns (ho : q_isold g 0) (hN : g.2.2.2.2.2.1 < 2 ^ 31) (hd : 30 ≤ d) (hmc : 20000 ≤ mc) (hms : 1250000 ≤ ms) (hQ : ∀ h, Q (.inl (some (.int 1))) h) : ∀ r t kc ks B h s lc fl, t + r = 3 → z_X h s lc fl → z_V B s → B ≤ 200 + 8 * t → 4 ≤ s.1 → s.1 ≤ 7 → kc ≤ 1800 + 6000 * t → ks ≤ 12000 + 400000 * t → q_W g mL_law d mc ms Q kc ks 15 [.ref 0, .ref 100, .int (nI t), q_u, q_u, q_u, q_u, q_u, q_u, q_u, q_u, q_u, q_u, q_u, q_u, q_u, q_u, q_u, q_u, q_u, q_u, q_u, q_u, q_u, q_u, q_u, q_u, q_u, q_u, q_u, q_u, q_u] [] h := by
  intro r
  induction r with
  | zero =>
    intro t kc ks B h s lc fl hr X V hB n4 n7 hkc hks
    have e : t = 3 := by omega
    subst e
    refine q_iload_n dL_law_15 rfl ?_
    refine q_iconst (v := 3) dL_law_16 rfl ?_
    refine q_icmp_ge 1593 dL_law_17 (by decide) (fun b => ?_) (fun b => absurd ((nI_leI (a := 3) (b := 3) (by omega) (by omega)).mpr (by omega)) b)
    refine q_iconst (v := 1) dL_law_1593 rfl ?_
    exact q_ireturn dL_law_1594 rfl rfl (by omega) (by omega) (hQ h)
  | succ r ih =>
    intro t kc ks B h s lc fl hr X V hB n4 n7 hkc hks
    refine q_iload_n dL_law_15 rfl ?_
    refine q_iconst (v := 3) dL_law_16 rfl ?_
    refine q_icmp_ge 1593 dL_law_17 (by decide) (fun b => absurd ((nI_leI (a := 3) (by omega) (by omega)).mp b) (by omega)) (fun b => ?_)
    refine l_turn (t := t) (KC := 7800 + 6000 * t) (KS := 412000 + 400000 * t) ho hN (by omega) hd (by omega) (by omega) (by omega) (fun kc ks h s2 lc fl X V n4 n7 hkc hks => ?_) kc ks h s lc fl X V n4 n7 (by omega) (by omega)
    refine q_iinc (x := nI t) (v := nI (t + 1)) dL_law_1587 rfl (nI_add _ 1) rfl ?_
    change q_W _ _ _ _ _ _ _ _ 1590 [.ref 0, .ref 100, .int (nI (t + 1)), q_u, q_u, q_u, q_u, q_u, q_u, q_u, q_u, q_u, q_u, q_u, q_u, q_u, q_u, q_u, q_u, q_u, q_u, q_u, q_u, q_u, q_u, q_u, q_u, q_u, q_u, q_u, q_u, q_u] [] _
    refine q_goto 15 dL_law_1590 (by decide) ?_
    exact ih (t + 1) _ _ _ h s2 lc fl (by omega) X V (by omega) n4 n7 (by omega) (by omega)
end TURN
theorem z_V0 : z_V 0 z_zs := ⟨⟨Nat.zero_le 8, Nat.zero_le 12, ⟨0, Nat.zero_le _, rfl, fun j hj => absurd hj (Nat.not_lt_zero j)⟩, fun i j _ hj => absurd hj (Nat.not_lt_zero j), fun j hj => absurd hj (Nat.not_lt_zero j), fun j hj => absurd hj (Nat.not_lt_zero j), fun j hj => absurd hj (Nat.not_lt_zero j), fun j hj => absurd hj (Nat.not_lt_zero j), fun j hj => absurd hj (Nat.not_lt_zero j), Nat.zero_le 20⟩, fun i j _ hj => absurd hj (Nat.not_lt_zero j)⟩
set_option maxRecDepth 100000 in
set_option maxHeartbeats 8000000 in
/-- the law, from its first instruction to its end -/
theorem l_law {g : q_G} {h : q_H} {d mc ms : Nat} {Q : q_O → q_H → Prop} (hN : g.2.2.2.2.2.1 < 2 ^ 31) (ho : q_isold g 0) (hd : 30 ≤ d) (hmc : 20000 ≤ mc) (hms : 1250000 ≤ ms) (hQ : ∀ h, Q (.inl (some (.int 1))) h) (s0 : h.1 = 100) : q_W g mL_law d mc ms Q 0 0 0 [.ref 0, q_u, q_u, q_u, q_u, q_u, q_u, q_u, q_u, q_u, q_u, q_u, q_u, q_u, q_u, q_u, q_u, q_u, q_u, q_u, q_u, q_u, q_u, q_u, q_u, q_u, q_u, q_u, q_u, q_u, q_u, q_u] [] h := by
  refine q_new (fs := [.null, .null, .null, .null, .null, .null, .null, .null, .null, .null, .int 0, .int 0, .int 0]) kC_X10 kL_L_14 kV_X10 kJ_X10 rfl dL_law_0 (by intro j hj; have hj9 : j = 0 ∨ j = 1 ∨ j = 2 ∨ j = 3 ∨ j = 4 ∨ j = 5 ∨ j = 6 ∨ j = 7 ∨ j = 8 ∨ j = 9 ∨ j = 10 ∨ j = 11 ∨ j = 12 := (by omega); rcases hj9 with rfl | rfl | rfl | rfl | rfl | rfl | rfl | rfl | rfl | rfl | rfl | rfl | rfl <;> rfl) (by omega) (by omega) (fun hz => ?_)
  refine q_pushE (P := fun H => q_W _ _ _ _ _ _ _ _ _ _ _ H) (fun h1 sh1 eh1 fh1 => ?_)
  rw [s0] at sh1 eh1 fh1 ⊢
  have sh1 : h1.1 = 101 := sh1
  change q_W _ _ _ _ _ _ _ _ 3 [.ref 0, q_u, q_u, q_u, q_u, q_u, q_u, q_u, q_u, q_u, q_u, q_u, q_u, q_u, q_u, q_u, q_u, q_u, q_u, q_u, q_u, q_u, q_u, q_u, q_u, q_u, q_u, q_u, q_u, q_u, q_u, q_u] [.ref 100] h1
  refine q_dup dL_law_3 rfl ?_
  refine q_invI (mc' := 114) (ms' := 1938) (d' := d - 1) (as := []) (i := 100) rfl rfl (by rw [q_R0e]; omega) dL_law_4 kM_X10_init kL_L_140 kI_X10_init rfl rfl rfl (Nat.le_of_ble_eq_true rfl) (by omega) (by decide) (by omega) (by omega) (e_X10_init sh1 eh1 (by omega)) (q_kC (fun h2 hB => ?_)) q_xC
  obtain ⟨sh2, o2, v101, v109, v117, v125, v199, v201, v204, v207, c100, c211, c212, c213, c214⟩ := hB
  change q_W _ _ _ _ _ _ _ _ 7 [.ref 0, q_u, q_u, q_u, q_u, q_u, q_u, q_u, q_u, q_u, q_u, q_u, q_u, q_u, q_u, q_u, q_u, q_u, q_u, q_u, q_u, q_u, q_u, q_u, q_u, q_u, q_u, q_u, q_u, q_u, q_u, q_u] [.ref 100] h2
  have X : z_X h2 z_zs 0 (fun _ => 0) := ⟨false, -1, -1, z_zs, 0, 0, fun _ => z_zs, 0, fun _ => 0, Nat.zero_le 8, Nat.zero_le 8, _, _, _, _, _, _, _, _, _, _, _, _, _, _, _, ⟨(by rw [q_R0e]; omega), by omega, c100⟩, v101, v109, v117, v125, v199, v201, v204, v207, ⟨212, 214, ⟨0, 16, fun _ => 0, ⟨(by rw [q_R0e]; omega), by omega, by decide, c211⟩, ⟨(by rw [q_R0e]; omega), by omega, by decide, c212⟩, by decide, by decide, by decide, fun j hj => (by decide : vp_nar .byte 0 = 0), fun j hj => absurd hj (Nat.not_lt_zero j)⟩, ⟨0, 16, fun _ => 0, ⟨(by rw [q_R0e]; omega), by omega, by decide, c213⟩, ⟨(by rw [q_R0e]; omega), by omega, by decide, c214⟩, by decide, by decide, by decide, fun j hj => (by decide : vp_nar .byte 0 = 0), fun j hj => absurd hj (Nat.not_lt_zero j)⟩, Or.inl rfl, Or.inl rfl, by decide, by omega, by decide, by decide⟩⟩
  have V := z_V0
  refine q_astore_n (by decide) dL_law_7 (by decide) rfl ?_
  change q_W _ _ _ _ _ _ _ _ 8 [.ref 0, .ref 100, q_u, q_u, q_u, q_u, q_u, q_u, q_u, q_u, q_u, q_u, q_u, q_u, q_u, q_u, q_u, q_u, q_u, q_u, q_u, q_u, q_u, q_u, q_u, q_u, q_u, q_u, q_u, q_u, q_u, q_u] [] _
  refine q_aload_n (by decide) dL_law_8 rfl ?_
  refine q_aload_nO ho dL_law_9 rfl ?_
  refine q_invS (mc' := 1652) (ms' := 9912) (d' := d - 1) (as := [.ref 100, .ref 0]) dL_law_10 kM_L_build kL_L_141 kT_L_build rfl rfl rfl (Nat.le_of_ble_eq_true rfl) (by omega) (by decide) (by omega) (by omega) (e_build (d := d - 1) X V rfl ho hN (by omega)) (fun v1 h1 hB => ?_) (fun E1 h1 hB => by
      obtain ⟨s9, e9, -⟩ := hB
      cases e9)
  obtain ⟨s1, e9, X1, z_1, V1, na1, nb1⟩ := hB
  injection e9 with e9
  subst e9
  change q_W _ _ _ _ _ _ _ _ 13 [.ref 0, .ref 100, q_u, q_u, q_u, q_u, q_u, q_u, q_u, q_u, q_u, q_u, q_u, q_u, q_u, q_u, q_u, q_u, q_u, q_u, q_u, q_u, q_u, q_u, q_u, q_u, q_u, q_u, q_u, q_u, q_u, q_u] [] _
  refine q_iconst (v := 0) dL_law_13 rfl ?_
  refine q_istore_n dL_law_14 (by decide) rfl ?_
  change q_W _ _ _ _ _ _ _ _ 15 [.ref 0, .ref 100, .int 0, q_u, q_u, q_u, q_u, q_u, q_u, q_u, q_u, q_u, q_u, q_u, q_u, q_u, q_u, q_u, q_u, q_u, q_u, q_u, q_u, q_u, q_u, q_u, q_u, q_u, q_u, q_u, q_u, q_u] [] _
  exact l_turns ho hN hd hmc hms hQ 3 0 _ _ _ h1 s1 _ _ (by omega) X1 V1 (by omega) na1 nb1 (by omega) (by omega)
