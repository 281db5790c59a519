theorem q_anewaF {g : q_G} {M : q_M} {d mc ms : Nat} {Q : q_O → q_H → Prop} {kc ks pc : Nat} {ls st : List Value} {h : q_H} {f0 : Nat → Option Nat} {own : String} {idx : Nat} {n : Int32} {N : Nat} (hlw : Cond.classLink own idx "ArgumentMap$State" ∈ q_WS) (ho : M.1.cls = own) (hd : decode M.2.1 pc = .ok (.anewarray idx, 3)) (hf0 : ∀ j, j < N → f0 j = none) (hn : ¬ n < 0) (hN : n.toNatClampNeg = N) (hb : N * 4 ≤ 536870912) (hmc : kc + 1 ≤ mc) (hms : ks + N ≤ ms)
    (kk : q_R0 ≤ h.1 → q_W g M d mc ms Q (kc + 1) (ks + N) (pc + 3) ls (.ref h.1 :: st) (q_push h (.inl (6, N, .inr (.inr (.inr (.inr f0))))))) : q_W g M d mc ms Q kc ks pc ls (.int n :: st) h := by
  intro p e s m args below meth c H locs mls X hR hS hL
  have hts := q_hWS X.2.2.2.2.1
  have hK := X.2.2.2.2.2.2.2.1
  have h1 := hR.1
  subst hN
  refine W.anew X.1 X.2.1 (own := own) (by rw [← ho]; exact X.2.2.2.1) (hts _ hlw) (va_AO.use hK.2.2.2.2.2.1.2.2.2.1) rfl hd rfl hn hb hmc hms fun cA kA comp f1 f2 f3 f4 => ?_
  obtain ⟨kA', comp', k1, k2, k3, k4⟩ := (hK.1.2 6 _ rfl).2
  have hc : cA = g.2.2.2.1 6 := Option.some.inj (f1.symm.trans k4)
  subst hc
  have hk := kk h1 p e s m args below meth c (H.push { cls := g.2.2.2.1 6, slots := Array.replicate n.toNatClampNeg .null, vm := .none }) locs mls X (hR.pushed (c := .inl (6, n.toNatClampNeg, .inr (.inr (.inr (.inr f0))))) (by rw [Array.size_push]) (by
    rw [← hR.2.1]
    show (H.push _)[H.size]? = _
    rw [Array.getElem?_push_size, arrV_new]
    have e9 : ∀ F : Nat → Value, (∀ j, j < n.toNatClampNeg → F j = .null) → arrV (g.2.2.2.1 6) n.toNatClampNeg (fun _ => Value.null) = arrV (g.2.2.2.1 6) n.toNatClampNeg F := fun F hF => by
      unfold arrV
      congr 2
      funext j
      exact (hF j.val j.isLt).symm
    exact congrArg some (e9 (fun j => va_rf ((f0 j).map (q_ad g))) (fun j hj => by
      show va_rf ((f0 j).map (q_ad g)) = _
      rw [hf0 j hj]
      rfl))) (fun q hq => by rw [Array.getElem?_push, if_neg (Nat.ne_of_lt hq)])) ⟨Nat.le_trans hS.1 (by simp), fun x q1 q2 => by rw [Array.getElem?_push, if_neg (Nat.ne_of_lt (Nat.lt_of_lt_of_le q1 hS.1))]; exact hS.2.1 x q1 q2, hS.2.2⟩ hL
  rw [List.map_cons, q_tV_ref h1, ← hR.2.1] at hk
  exact hk
/-- a State as the constructor leaves it -/
def z_zs : ZS := ⟨0, fun _ => 0, fun _ => 0, fun _ => 0, fun _ => 0, fun _ => 0, 0, 0, 0, fun _ => 0, 0, 0, 0⟩
theorem z_S2t.keepI {h h1 : q_H} {b : Nat} {s : ZS} (t : z_S2t h b s) (hle : h.1 ≤ h1.1) (hq : ∀ i, b ≤ i → i < b + 8 → h1.2 i = h.2 i) : z_S2t h1 b s := z_S2.keepI t hle hq
theorem e_stNew {g : q_G} {h : q_H} {d b : Nat} (hb : q_R0 ≤ b) (s0 : h.1 = b + 1) (c0 : h.2 b = some (.inr (10, [.null, .null, .null, .null, .null, .null, .int 0, .int 0, .int 0]))) (hd : 2 ≤ d) : q_Spec g mX8_init d 7 57 [.ref b] h (q_chg (.inl none) (fun h1 => h1.1 = b + 8 ∧ (∀ j, j < b → h1.2 j = h.2 j) ∧ z_S2t h1 b z_zs)) := by
  refine q_chgI (e_X8_init hb s0 c0 hd) (fun h1 hB => ?_)
  obtain ⟨s1, o, c0, c1, c2, c3, c4, c5, c6, c7⟩ := hB
  exact ⟨s1, o, hb, by omega, by decide, by decide, c0, c1, c2, c3, c4, c5, c6, c7⟩
def z_hi (h0 h : q_H) (k : Nat) : Prop := h.1 = 127 + 8 * k ∧ (∀ j, j < 125 → h.2 j = h0.2 j) ∧ h.2 125 = some (.inr (7, [.ref 126, .int 0, .int 0])) ∧ h.2 126 = some (.inl (6, 9, .inr (.inr (.inr (.inr (fun j => if j < k ∨ 9 ≤ j then some (127 + 8 * j) else none)))))) ∧ ∀ r, r < k → z_S2t h (127 + 8 * r) z_zs
set_option maxRecDepth 100000 in
theorem l_hi_init {g : q_G} {h : q_H} {d mc ms : Nat} {Q : q_O → q_H → Prop} (hd : 3 ≤ d) : ∀ (r k kc ks : Nat) (hh : q_H) (hk : k + r = 9) (hi : z_hi h hh k) (hmc : kc + 8 * r ≤ mc) (hms : ks + 66 * r ≤ ms) (K : ∀ h2, z_hi h h2 9 → q_W g mX5_init d mc ms Q mc ms 50 [.ref 125, .int (nI 9)] [] h2), q_W g mX5_init d mc ms Q kc ks 25 [.ref 125, .int (nI k)] [] hh := by
  intro r
  induction r with
  | zero =>
    intro k kc ks hh hk hi hmc hms K
    obtain rfl : k = 9 := by omega
    refine q_iload_n dX5_init_25 rfl ?_
    refine q_bipush (v := 8) dX5_init_26 rfl ?_
    refine q_icmp_gt 50 dX5_init_28 (by decide) (fun _ => ?_) (fun b9 => absurd (by decide) b9)
    exact q_widen (by omega) (by omega) (K hh hi)
  | succ r ih =>
    intro k kc ks hh hk hi hmc hms K
    obtain ⟨s0, o0, c0, c1, cS⟩ := hi
    refine q_iload_n dX5_init_25 rfl ?_
    refine q_bipush (v := 8) dX5_init_26 rfl ?_
    refine q_icmp_gt 50 dX5_init_28 (by decide) (fun b9 => absurd ((nI_ltI (a := 8) (b := k) (by omega) (by omega)).mp b9) (by omega)) (fun _ => ?_)
    refine q_aload_n (by first | assumption | omega | decide | (rw [q_R0e]; omega)) dX5_init_31 rfl ?_
    refine q_getf (k := 0) (v := .ref 126) kC_X5 kL_X5_11 rfl (by decide) dX5_init_32 c0 rfl ?_
    refine q_iload_n dX5_init_35 rfl ?_
    refine q_new (fs := [.null, .null, .null, .null, .null, .null, .int 0, .int 0, .int 0]) kC_X8 kL_X5_9 kV_X8 kJ_X8 rfl dX5_init_36 (by intro j hj; have hj9 : j = 0 ∨ j = 1 ∨ j = 2 ∨ j = 3 ∨ j = 4 ∨ j = 5 ∨ j = 6 ∨ j = 7 ∨ j = 8 := (by omega); rcases hj9 with rfl | rfl | rfl | rfl | rfl | rfl | rfl | rfl | rfl <;> rfl) (by omega) (by omega) (fun hz => ?_)
    refine q_pushE (P := fun H => q_W _ _ _ _ _ _ _ _ _ _ _ H) (fun h1 s1 e1 f1 => ?_)
    rw [s0] at s1 e1 f1 hz ⊢
    change q_W _ _ _ _ _ _ _ _ 39 [.ref 125, .int (nI k)] [.ref (127 + 8 * k), .int (nI k), .ref 126] h1
    refine q_dup dX5_init_39 rfl ?_
    refine q_invIN (mc' := 7) (ms' := 57) (d' := d - 1) (as := []) (i := 127 + 8 * k) rfl rfl (by omega) dX5_init_40 kM_X8_init kN_X5_24 kI_X8_init rfl rfl rfl (Nat.le_of_ble_eq_true rfl) (by omega) (by decide) (by omega) (by omega) (e_stNew (b := 127 + 8 * k) (by omega) s1 e1 (by omega)) (q_kC (fun h2 hB => ?_)) q_xC
    obtain ⟨s2, o2, v2⟩ := hB
    change q_W _ _ _ _ _ _ _ _ 43 [.ref 125, .int (nI k)] [.ref (127 + 8 * k), .int (nI k), .ref 126] h2
    have a1 : h2.2 126 = some (.inl (6, 9, .inr (.inr (.inr (.inr (fun j => if j < k ∨ 9 ≤ j then some (127 + 8 * j) else none)))))) := ((o2 126 (by omega)).trans (f1 126 (by omega))).trans c1
    have a0 : h2.2 125 = some (.inr (7, [.ref 126, .int 0, .int 0])) := ((o2 125 (by omega)).trans (f1 125 (by omega))).trans c0
    refine q_aast (kC_X8.1) dX5_init_43 a1 (v2.2.2.2.2.1) (vp_in_nI (by omega) (by decide)) ?_
    refine q_setE (P := fun H => q_W _ _ _ _ _ _ _ _ _ _ _ H) (fun h3 s3 e3 f3 => ?_)
    rw [nI_clamp (by omega)] at e3
    refine q_iinc (x := nI k) (v := nI (k + 1)) dX5_init_44 rfl (nI_add _ 1) rfl ?_
    refine q_goto 25 dX5_init_47 (by decide) ?_
    refine ih (k + 1) _ _ h3 (by omega) ⟨by omega, fun j hj => (f3 j (by omega)).trans ((o2 j (by omega)).trans ((f1 j (by omega)).trans (o0 j hj))), (f3 125 (by omega)).trans a0, ?_, fun r hr => ?_⟩ (by omega) (by omega) K
    · rw [e3]
      congr 8
      funext j
      unfold va_up
      by_cases e : j = k
      · subst e
        rw [if_pos rfl, if_pos (by omega)]
      · rw [if_neg e]
        show (if j < k ∨ 9 ≤ j then some (127 + 8 * j) else none) = _
        by_cases l : j < k ∨ 9 ≤ j
        · rw [if_pos l, if_pos (by omega)]
        · rw [if_neg l, if_neg (by omega)]
    · by_cases e : r = k
      · subst e
        exact v2.keepI (by omega) (fun i h4 h5 => f3 i (by omega))
      · exact (cS r (by omega)).keepI (by omega) (fun i h4 h5 => (f3 i (by omega)).trans ((o2 i (by omega)).trans (f1 i (by omega))))
set_option maxRecDepth 100000 in
theorem e_hiNew {g : q_G} {h : q_H} {d : Nat} (s0 : h.1 = 126) (c0 : h.2 125 = some (.inr (7, [.null, .int 0, .int 0]))) (hd : 3 ≤ d) : q_Spec g mX5_init d 73 603 [.ref 125] h (q_chg (.inl none) (fun h1 => h1.1 = 199 ∧ (∀ j, j < 125 → h1.2 j = h.2 j) ∧ z_Hs h1 125 0 0 (fun _ => z_zs))) := by
  have hb : q_R0 ≤ 125 := by
    rw [q_R0e]
    omega
  refine q_enter (by decide +kernel) rfl rfl (Nat.le_of_ble_eq_true rfl) (fun hz => ?_)
  change q_W _ _ _ _ _ _ _ _ _ [.ref 125, q_u] [] _
  refine q_aload_n hb dX5_init_0 rfl ?_
  refine q_objInit hb kL_X5_3 kO_1 kO_2 rfl dX5_init_1 (Nat.le_of_ble_eq_true rfl) (by omega) ?_
  refine q_aload_n hb dX5_init_4 rfl ?_
  refine q_bipush (v := 9) dX5_init_5 rfl ?_
  refine q_anewaF (N := 9) (f0 := fun j => if j < 0 ∨ 9 ≤ j then some (127 + 8 * j) else none) kL_X5_9 rfl dX5_init_7 (fun j hj => if_neg (by omega)) (by decide) (by decide) (by decide) (by omega) (by omega) (fun hz => ?_)
  refine q_pushE (P := fun H => q_W _ _ _ _ _ _ _ _ _ _ _ H) (fun h1 s1 e1 f1 => ?_)
  rw [s0] at s1 e1 f1 ⊢
  have a0 := (f1 125 (by omega)).trans c0
  change q_W _ _ _ _ _ _ _ _ 10 [.ref 125, q_u] [.ref 126, .ref 125] h1
  refine q_putfF (k := 0) kC_X5 kL_X5_11 rfl (by decide) rfl rfl rfl dX5_init_10 a0 (Nat.le_of_ble_eq_true rfl) ⟨rfl, rfl⟩ rfl ?_
  refine q_setE (P := fun H => q_W _ _ _ _ _ _ _ _ _ _ _ H) (fun h2 s2 e2 f2 => ?_)
  refine q_aload_n hb dX5_init_13 rfl ?_
  refine q_iconst (v := 0) dX5_init_14 rfl ?_
  refine q_putf (k := 1) kC_X5 kL_X5_17 rfl (by decide) rfl dX5_init_15 e2 (Nat.le_of_ble_eq_true rfl) ⟨rfl, rfl⟩ rfl ?_
  refine q_setE (P := fun H => q_W _ _ _ _ _ _ _ _ _ _ _ H) (fun h3 s3 e3 f3 => ?_)
  refine q_aload_n hb dX5_init_18 rfl ?_
  refine q_iconst (v := 0) dX5_init_19 rfl ?_
  refine q_putf (k := 2) kC_X5 kL_X5_21 rfl (by decide) rfl dX5_init_20 e3 (Nat.le_of_ble_eq_true rfl) ⟨rfl, rfl⟩ rfl ?_
  refine q_setE (P := fun H => q_W _ _ _ _ _ _ _ _ _ _ _ H) (fun h4 s4 e4 f4 => ?_)
  refine q_iconst (v := 0) dX5_init_23 rfl ?_
  refine q_istore_n dX5_init_24 (by decide) rfl ?_
  change q_W _ _ _ _ _ _ _ _ 25 [.ref 125, .int (nI 0)] [] h4
  have t1 : h4.2 126 = some (.inl (6, 9, .inr (.inr (.inr (.inr (fun j => if j < 0 ∨ 9 ≤ j then some (127 + 8 * j) else none)))))) := ((f4 126 (by omega)).trans (f3 126 (by omega))).trans ((f2 126 (by omega)).trans e1)
  refine l_hi_init (h := h) hd 9 0 _ _ h4 (by omega) ⟨by omega, fun j hj => ((f4 j (by omega)).trans (f3 j (by omega))).trans ((f2 j (by omega)).trans (f1 j (by omega))), e4, ?_, fun r hr => absurd hr (Nat.not_lt_zero r)⟩ (by omega) (by omega) (fun h5 hi => ?_)
  · exact t1
  · obtain ⟨u0, u1, u2, u3, u4⟩ := hi
    refine q_return dX5_init_50 rfl (by omega) (by omega) ⟨rfl, by omega, u1, by omega, by decide, by decide, u2, ?_, fun r hr => u4 r hr⟩
    rw [u3]
    congr 8
    funext j
    rw [if_pos (by omega)]
