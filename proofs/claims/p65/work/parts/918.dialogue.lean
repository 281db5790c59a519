/-! the law's turn: the dialogue's line -/
section DLG
variable {g : q_G} {d mc ms : Nat} {Q : q_O → q_H → Prop} {s : ZS} {B : Nat}
set_option maxRecDepth 100000 in
set_option maxHeartbeats 8000000 in
theorem l_dlg {t na nb a9 p u ri rj rg m1 m2 pv KC KS : Nat} {a8 st gr tg : Int32} {lc : Nat} {fl : Nat → Int32} (V : z_V B s) (hB : B ≤ 1000) (hd : 30 ≤ d) (hKC : KC ≤ mc) (hKS : KS ≤ ms)
    (K : ∀ kc ks h rs vs, z_X h s lc fl → z_arr 0 h ri s.1 s.2.1 → z_Tx h (ri + 1) rs vs (z_dP s.2.2.2.2.2.2.2.2.2.1 s.2.2.2.2.2.2.2.2.1) → kc ≤ KC → ks ≤ KS → q_W g mL_law d mc ms Q kc ks 1346 [.ref 0, .ref 100, .int (nI t), .int (nI s.1), .int (nI na), .int (nI nb), .int (nI p), .int (nI u), .int a8, .int (nI s.2.2.2.2.2.2.2.2.1), .ref ri, .ref rj, .int (zAc s), .int (zRj s), .int st, .int (nI pv), .int gr, .int (zCd s (2 ^ s.1)), .int (zCt s (2 ^ s.1)), .ref rg, .int (nI m1), .int (nI m2), .int tg, .ref rs, .int (nI s.2.2.2.2.2.2.2.2.1), q_u, q_u, q_u, q_u, q_u, q_u, q_u] [] h) :
    ∀ r k kc ks h rs vs L, k + r = s.2.2.2.2.2.2.2.2.1 → z_X h s lc fl → z_arr 0 h ri s.1 s.2.1 → z_Tx h (ri + 1) rs vs L → L = z_dP s.2.2.2.2.2.2.2.2.2.1 k → kc + 20 * r ≤ KC → ks + 2000 * r ≤ KS → q_W g mL_law d mc ms Q kc ks 1275 [.ref 0, .ref 100, .int (nI t), .int (nI s.1), .int (nI na), .int (nI nb), .int (nI p), .int (nI u), .int a8, .int (nI s.2.2.2.2.2.2.2.2.1), .ref ri, .ref rj, .int (zAc s), .int (zRj s), .int st, .int (nI pv), .int gr, .int (zCd s (2 ^ s.1)), .int (zCt s (2 ^ s.1)), .ref rg, .int (nI m1), .int (nI m2), .int tg, .ref rs, .int (nI k), q_u, q_u, q_u, q_u, q_u, q_u, q_u] [] h := by
  have h8 := V.1.1
  have h12 := V.1.2.1
  intro r
  induction r with
  | zero =>
    intro k kc ks h rs vs L hr X A S hL hkc hks
    have e : k = s.2.2.2.2.2.2.2.2.1 := by omega
    subst e hL
    refine q_iload dL_law_1275 rfl ?_
    refine q_iload dL_law_1277 rfl ?_
    refine q_icmp_ge 1346 dL_law_1279 (by decide) (fun b => ?_) (fun b => absurd ((nI_leI (by omega) (by omega)).mpr (by omega)) b)
    exact K _ _ h rs vs X A S (by omega) (by omega)
  | succ r ih =>
    intro k kc ks h rs vs L hr X A S hL hkc hks
    have hk : k < s.2.2.2.2.2.2.2.2.1 := by omega
    have hle : L.length ≤ 5 * k := by
      rw [hL]
      exact z_dPlen3 V hB k (by omega)
    have hid : ∃ m, m < 1000 ∧ s.2.2.2.2.2.2.2.2.2.1 k = nI m := by
      obtain ⟨m, hm, e⟩ := z_mvN V hk
      exact ⟨m, by omega, e⟩
    have hdl := z_dgl hid
    have hdp : z_dP s.2.2.2.2.2.2.2.2.2.1 (k + 1) = ((z_dP s.2.2.2.2.2.2.2.2.2.1 k ++ (if k = 0 then [] else [32])) ++ (if k % 2 = 0 then [112] else [111])) ++ z_dgs (s.2.2.2.2.2.2.2.2.2.1 k).toNatClampNeg := rfl
    refine q_iload dL_law_1275 rfl ?_
    refine q_iload dL_law_1277 rfl ?_
    refine q_icmp_ge 1346 dL_law_1279 (by decide) (fun b => absurd ((nI_leI (by omega) (by omega)).mp b) (by omega)) (fun b => ?_)
    have hs0_1 := X.s0
    have lt_A_1 := A.lt
    have hsl := S.lt
    refine t_new X dL_law_1282 dL_law_1285 dL_law_1286 (by simp only [List.length_cons, List.length_nil]; omega) (by omega) (by omega) (by omega) (fun h1 b1 w1 X1 D_1 o_1 => ?_)
    have A_1 := A.on o_1 (by omega)
    have S_1 := S.on o_1 ⟨by omega, by omega⟩
    have le_1 := o_1.le
    change q_W _ _ _ _ _ _ _ _ 1289 [.ref 0, .ref 100, .int (nI t), .int (nI s.1), .int (nI na), .int (nI nb), .int (nI p), .int (nI u), .int a8, .int (nI s.2.2.2.2.2.2.2.2.1), .ref ri, .ref rj, .int (zAc s), .int (zRj s), .int st, .int (nI pv), .int gr, .int (zCd s (2 ^ s.1)), .int (zCt s (2 ^ s.1)), .ref rg, .int (nI m1), .int (nI m2), .int tg, .ref rs, .int (nI k), q_u, q_u, q_u, q_u, q_u, q_u, q_u] [.ref b1] _
    refine q_aloadS S_1.lo dL_law_1289 rfl ?_
    refine t_appS X1 D_1 S_1 hsl (by simp only [List.length_append, List.length_cons, List.length_nil]; omega) dL_law_1291 (by simp only [List.length_cons, List.length_nil]; omega) (by omega) (by omega) (by omega) (fun h2 w2 X2 D_2 o_2 => ?_)
    have A_2 := A_1.on o_2 (by omega)
    have S_2 := S_1.on o_2 ⟨by omega, by omega⟩
    have le_2 := o_2.le
    change q_W _ _ _ _ _ _ _ _ 1294 [.ref 0, .ref 100, .int (nI t), .int (nI s.1), .int (nI na), .int (nI nb), .int (nI p), .int (nI u), .int a8, .int (nI s.2.2.2.2.2.2.2.2.1), .ref ri, .ref rj, .int (zAc s), .int (zRj s), .int st, .int (nI pv), .int gr, .int (zCd s (2 ^ s.1)), .int (zCt s (2 ^ s.1)), .ref rg, .int (nI m1), .int (nI m2), .int tg, .ref rs, .int (nI k), q_u, q_u, q_u, q_u, q_u, q_u, q_u] [.ref b1] _
    refine q_iload dL_law_1294 rfl ?_
    rcases (show k = 0 ∨ (k ≠ 0 ∧ k % 2 = 0) ∨ (k ≠ 0 ∧ ¬ k % 2 = 0) by omega) with q | ⟨q, q2⟩ | ⟨q, q2⟩
    · refine q_if_le 1304 dL_law_1296 (by decide) (fun b => ?_) (fun b => absurd (show nI k ≤ (0 : Int32) by rw [q]; decide) b)
      have C3 : z_Tx h2 0 14 25 [] := z_Tx.const X2 0 0 (by decide)
      refine q_ldcS (k := 0) (by decide) rfl rfl dL_law_1304 ?_
      change q_W _ _ _ _ _ _ _ _ 1306 [.ref 0, .ref 100, .int (nI t), .int (nI s.1), .int (nI na), .int (nI nb), .int (nI p), .int (nI u), .int a8, .int (nI s.2.2.2.2.2.2.2.2.1), .ref ri, .ref rj, .int (zAc s), .int (zRj s), .int st, .int (nI pv), .int gr, .int (zCd s (2 ^ s.1)), .int (zCt s (2 ^ s.1)), .ref rg, .int (nI m1), .int (nI m2), .int tg, .ref rs, .int (nI k), q_u, q_u, q_u, q_u, q_u, q_u, q_u] [.ref 14, .ref b1] _
      refine t_appS X2 D_2 C3 ⟨by omega, by omega⟩ (by simp only [List.length_append, List.length_cons, List.length_nil]; omega) dL_law_1306 (by simp only [List.length_cons, List.length_nil]; omega) (by omega) (by omega) (by omega) (fun h4 w4 X4 D_4 o_4 => ?_)
      have A_4 := A_2.on o_4 (by omega)
      have S_4 := S_2.on o_4 ⟨by omega, by omega⟩
      have le_4 := o_4.le
      change q_W _ _ _ _ _ _ _ _ 1309 [.ref 0, .ref 100, .int (nI t), .int (nI s.1), .int (nI na), .int (nI nb), .int (nI p), .int (nI u), .int a8, .int (nI s.2.2.2.2.2.2.2.2.1), .ref ri, .ref rj, .int (zAc s), .int (zRj s), .int st, .int (nI pv), .int gr, .int (zCd s (2 ^ s.1)), .int (zCt s (2 ^ s.1)), .ref rg, .int (nI m1), .int (nI m2), .int tg, .ref rs, .int (nI k), q_u, q_u, q_u, q_u, q_u, q_u, q_u] [.ref b1] _
      refine q_iload dL_law_1309 rfl ?_
      refine q_iconst (v := 2) dL_law_1311 rfl ?_
      refine q_iremN (a := k) (b := 2) (by omega) (by omega) (by omega) dL_law_1312 ?_
      refine q_if_ne 1321 dL_law_1313 (by decide) (fun b => b (by rw [show k % 2 = 0 by omega]; rfl) |>.elim) (fun b => ?_)
      have C5 : z_Tx h4 0 20 31 [112] := z_Tx.const X4 6 0 (by decide)
      refine q_ldcS (k := 6) (by decide) rfl rfl dL_law_1316 ?_
      change q_W _ _ _ _ _ _ _ _ 1318 [.ref 0, .ref 100, .int (nI t), .int (nI s.1), .int (nI na), .int (nI nb), .int (nI p), .int (nI u), .int a8, .int (nI s.2.2.2.2.2.2.2.2.1), .ref ri, .ref rj, .int (zAc s), .int (zRj s), .int st, .int (nI pv), .int gr, .int (zCd s (2 ^ s.1)), .int (zCt s (2 ^ s.1)), .ref rg, .int (nI m1), .int (nI m2), .int tg, .ref rs, .int (nI k), q_u, q_u, q_u, q_u, q_u, q_u, q_u] [.ref 20, .ref b1] _
      refine q_goto 1323 dL_law_1318 (by decide) ?_
      refine t_appS X4 D_4 C5 ⟨by omega, by omega⟩ (by simp only [List.length_append, List.length_cons, List.length_nil]; omega) dL_law_1323 (by simp only [List.length_cons, List.length_nil]; omega) (by omega) (by omega) (by omega) (fun h6 w6 X6 D_6 o_6 => ?_)
      have A_6 := A_4.on o_6 (by omega)
      have S_6 := S_4.on o_6 ⟨by omega, by omega⟩
      have le_6 := o_6.le
      change q_W _ _ _ _ _ _ _ _ 1326 [.ref 0, .ref 100, .int (nI t), .int (nI s.1), .int (nI na), .int (nI nb), .int (nI p), .int (nI u), .int a8, .int (nI s.2.2.2.2.2.2.2.2.1), .ref ri, .ref rj, .int (zAc s), .int (zRj s), .int st, .int (nI pv), .int gr, .int (zCd s (2 ^ s.1)), .int (zCt s (2 ^ s.1)), .ref rg, .int (nI m1), .int (nI m2), .int tg, .ref rs, .int (nI k), q_u, q_u, q_u, q_u, q_u, q_u, q_u] [.ref b1] _
      refine q_aload_n (by decide) dL_law_1326 rfl ?_
      refine q_iload dL_law_1327 rfl ?_
      obtain ⟨fo7, ho7⟩ := X6.obj
      refine q_invV (mc' := 1) (ms' := 6) (d' := d - 1) (as := [.int (nI k)]) dL_law_1329 kM_X10_moveAt kL_L_73 kI_X10_moveAt kS_X10_moveAt rfl (kC_X10.1) ho7 rfl rfl (Nat.le_of_ble_eq_true rfl) (by omega) (by decide) (by omega) (by omega) (k_moveAt (d := d - 1) X6 V hk (by omega)) (q_kC (fun h7 hB => ?_)) q_xC
      obtain ⟨X7, z_7⟩ := hB
      have A_7 := A_6.zone z_7
      have S_7 := S_6.zone z_7
      have D_7 := D_6.zone z_7
      have lz_7 := z_7.1
      change q_W _ _ _ _ _ _ _ _ 1332 [.ref 0, .ref 100, .int (nI t), .int (nI s.1), .int (nI na), .int (nI nb), .int (nI p), .int (nI u), .int a8, .int (nI s.2.2.2.2.2.2.2.2.1), .ref ri, .ref rj, .int (zAc s), .int (zRj s), .int st, .int (nI pv), .int gr, .int (zCd s (2 ^ s.1)), .int (zCt s (2 ^ s.1)), .ref rg, .int (nI m1), .int (nI m2), .int tg, .ref rs, .int (nI k), q_u, q_u, q_u, q_u, q_u, q_u, q_u] [.int (s.2.2.2.2.2.2.2.2.2.1 k), .ref b1] _
      refine t_appV X7 D_7 (by omega) (hid.imp fun m q => ⟨by omega, q.2⟩) (by simp only [List.length_append, List.length_cons, List.length_nil]; omega) dL_law_1332 (by simp only [List.length_cons, List.length_nil]; omega) (by omega) (by omega) (by omega) (fun h8 w8 X8 D_8 o_8 => ?_)
      have A_8 := A_7.on o_8 (by omega)
      have S_8 := S_7.on o_8 ⟨by omega, by omega⟩
      have le_8 := o_8.le
      change q_W _ _ _ _ _ _ _ _ 1335 [.ref 0, .ref 100, .int (nI t), .int (nI s.1), .int (nI na), .int (nI nb), .int (nI p), .int (nI u), .int a8, .int (nI s.2.2.2.2.2.2.2.2.1), .ref ri, .ref rj, .int (zAc s), .int (zRj s), .int st, .int (nI pv), .int gr, .int (zCd s (2 ^ s.1)), .int (zCt s (2 ^ s.1)), .ref rg, .int (nI m1), .int (nI m2), .int tg, .ref rs, .int (nI k), q_u, q_u, q_u, q_u, q_u, q_u, q_u] [.ref b1] _
      refine t_str X8 D_8 (by omega) (by simp only [List.length_append, List.length_cons, List.length_nil]; omega) dL_law_1335 (by simp only [List.length_cons, List.length_nil]; omega) (by omega) (by omega) (by omega) (fun h9 r9 v9 X9 Z_9 o_9 => ?_)
      have A_9 := A_8.on o_9 (by omega)
      have S_9 := S_8.on o_9 ⟨by omega, by omega⟩
      have le_9 := o_9.le
      change q_W _ _ _ _ _ _ _ _ 1338 [.ref 0, .ref 100, .int (nI t), .int (nI s.1), .int (nI na), .int (nI nb), .int (nI p), .int (nI u), .int a8, .int (nI s.2.2.2.2.2.2.2.2.1), .ref ri, .ref rj, .int (zAc s), .int (zRj s), .int st, .int (nI pv), .int gr, .int (zCd s (2 ^ s.1)), .int (zCt s (2 ^ s.1)), .ref rg, .int (nI m1), .int (nI m2), .int tg, .ref rs, .int (nI k), q_u, q_u, q_u, q_u, q_u, q_u, q_u] [.ref r9] _
      refine q_astoreS Z_9.lo dL_law_1338 (by decide) rfl ?_
      change q_W _ _ _ _ _ _ _ _ 1340 [.ref 0, .ref 100, .int (nI t), .int (nI s.1), .int (nI na), .int (nI nb), .int (nI p), .int (nI u), .int a8, .int (nI s.2.2.2.2.2.2.2.2.1), .ref ri, .ref rj, .int (zAc s), .int (zRj s), .int st, .int (nI pv), .int gr, .int (zCd s (2 ^ s.1)), .int (zCt s (2 ^ s.1)), .ref rg, .int (nI m1), .int (nI m2), .int tg, .ref r9, .int (nI k), q_u, q_u, q_u, q_u, q_u, q_u, q_u] [] _
      refine q_iinc (x := nI k) (v := nI (k + 1)) dL_law_1340 rfl (nI_add _ 1) rfl ?_
      change q_W _ _ _ _ _ _ _ _ 1343 [.ref 0, .ref 100, .int (nI t), .int (nI s.1), .int (nI na), .int (nI nb), .int (nI p), .int (nI u), .int a8, .int (nI s.2.2.2.2.2.2.2.2.1), .ref ri, .ref rj, .int (zAc s), .int (zRj s), .int st, .int (nI pv), .int gr, .int (zCd s (2 ^ s.1)), .int (zCt s (2 ^ s.1)), .ref rg, .int (nI m1), .int (nI m2), .int tg, .ref r9, .int (nI (k + 1)), q_u, q_u, q_u, q_u, q_u, q_u, q_u] [] _
      refine q_goto 1275 dL_law_1343 (by decide) ?_
      exact ih (k + 1) _ _ h9 r9 v9 _ (by omega) X9 A_9 (Z_9.down (by omega)) (by rw [hdp, hL, if_pos q, if_pos (by omega)]; simp [List.append_assoc]) (by omega) (by omega)
    · refine q_if_le 1304 dL_law_1296 (by decide) (fun b => absurd b (fun c => by have := (nI_leI (b := 0) (by omega) (by omega)).mp c; omega)) (fun b => ?_)
      have C10 : z_Tx h2 0 19 30 [32] := z_Tx.const X2 5 0 (by decide)
      refine q_ldcS (k := 5) (by decide) rfl rfl dL_law_1299 ?_
      change q_W _ _ _ _ _ _ _ _ 1301 [.ref 0, .ref 100, .int (nI t), .int (nI s.1), .int (nI na), .int (nI nb), .int (nI p), .int (nI u), .int a8, .int (nI s.2.2.2.2.2.2.2.2.1), .ref ri, .ref rj, .int (zAc s), .int (zRj s), .int st, .int (nI pv), .int gr, .int (zCd s (2 ^ s.1)), .int (zCt s (2 ^ s.1)), .ref rg, .int (nI m1), .int (nI m2), .int tg, .ref rs, .int (nI k), q_u, q_u, q_u, q_u, q_u, q_u, q_u] [.ref 19, .ref b1] _
      refine q_goto 1306 dL_law_1301 (by decide) ?_
      refine t_appS X2 D_2 C10 ⟨by omega, by omega⟩ (by simp only [List.length_append, List.length_cons, List.length_nil]; omega) dL_law_1306 (by simp only [List.length_cons, List.length_nil]; omega) (by omega) (by omega) (by omega) (fun h11 w11 X11 D_11 o_11 => ?_)
      have A_11 := A_2.on o_11 (by omega)
      have S_11 := S_2.on o_11 ⟨by omega, by omega⟩
      have le_11 := o_11.le
      change q_W _ _ _ _ _ _ _ _ 1309 [.ref 0, .ref 100, .int (nI t), .int (nI s.1), .int (nI na), .int (nI nb), .int (nI p), .int (nI u), .int a8, .int (nI s.2.2.2.2.2.2.2.2.1), .ref ri, .ref rj, .int (zAc s), .int (zRj s), .int st, .int (nI pv), .int gr, .int (zCd s (2 ^ s.1)), .int (zCt s (2 ^ s.1)), .ref rg, .int (nI m1), .int (nI m2), .int tg, .ref rs, .int (nI k), q_u, q_u, q_u, q_u, q_u, q_u, q_u] [.ref b1] _
      refine q_iload dL_law_1309 rfl ?_
      refine q_iconst (v := 2) dL_law_1311 rfl ?_
      refine q_iremN (a := k) (b := 2) (by omega) (by omega) (by omega) dL_law_1312 ?_
      refine q_if_ne 1321 dL_law_1313 (by decide) (fun b => b (by rw [show k % 2 = 0 by omega]; rfl) |>.elim) (fun b => ?_)
      have C12 : z_Tx h11 0 20 31 [112] := z_Tx.const X11 6 0 (by decide)
      refine q_ldcS (k := 6) (by decide) rfl rfl dL_law_1316 ?_
      change q_W _ _ _ _ _ _ _ _ 1318 [.ref 0, .ref 100, .int (nI t), .int (nI s.1), .int (nI na), .int (nI nb), .int (nI p), .int (nI u), .int a8, .int (nI s.2.2.2.2.2.2.2.2.1), .ref ri, .ref rj, .int (zAc s), .int (zRj s), .int st, .int (nI pv), .int gr, .int (zCd s (2 ^ s.1)), .int (zCt s (2 ^ s.1)), .ref rg, .int (nI m1), .int (nI m2), .int tg, .ref rs, .int (nI k), q_u, q_u, q_u, q_u, q_u, q_u, q_u] [.ref 20, .ref b1] _
      refine q_goto 1323 dL_law_1318 (by decide) ?_
      refine t_appS X11 D_11 C12 ⟨by omega, by omega⟩ (by simp only [List.length_append, List.length_cons, List.length_nil]; omega) dL_law_1323 (by simp only [List.length_cons, List.length_nil]; omega) (by omega) (by omega) (by omega) (fun h13 w13 X13 D_13 o_13 => ?_)
      have A_13 := A_11.on o_13 (by omega)
      have S_13 := S_11.on o_13 ⟨by omega, by omega⟩
      have le_13 := o_13.le
      change q_W _ _ _ _ _ _ _ _ 1326 [.ref 0, .ref 100, .int (nI t), .int (nI s.1), .int (nI na), .int (nI nb), .int (nI p), .int (nI u), .int a8, .int (nI s.2.2.2.2.2.2.2.2.1), .ref ri, .ref rj, .int (zAc s), .int (zRj s), .int st, .int (nI pv), .int gr, .int (zCd s (2 ^ s.1)), .int (zCt s (2 ^ s.1)), .ref rg, .int (nI m1), .int (nI m2), .int tg, .ref rs, .int (nI k), q_u, q_u, q_u, q_u, q_u, q_u, q_u] [.ref b1] _
      refine q_aload_n (by decide) dL_law_1326 rfl ?_
      refine q_iload dL_law_1327 rfl ?_
      obtain ⟨fo14, ho14⟩ := X13.obj
      refine q_invV (mc' := 1) (ms' := 6) (d' := d - 1) (as := [.int (nI k)]) dL_law_1329 kM_X10_moveAt kL_L_73 kI_X10_moveAt kS_X10_moveAt rfl (kC_X10.1) ho14 rfl rfl (Nat.le_of_ble_eq_true rfl) (by omega) (by decide) (by omega) (by omega) (k_moveAt (d := d - 1) X13 V hk (by omega)) (q_kC (fun h14 hB => ?_)) q_xC
      obtain ⟨X14, z_14⟩ := hB
      have A_14 := A_13.zone z_14
      have S_14 := S_13.zone z_14
      have D_14 := D_13.zone z_14
      have lz_14 := z_14.1
      change q_W _ _ _ _ _ _ _ _ 1332 [.ref 0, .ref 100, .int (nI t), .int (nI s.1), .int (nI na), .int (nI nb), .int (nI p), .int (nI u), .int a8, .int (nI s.2.2.2.2.2.2.2.2.1), .ref ri, .ref rj, .int (zAc s), .int (zRj s), .int st, .int (nI pv), .int gr, .int (zCd s (2 ^ s.1)), .int (zCt s (2 ^ s.1)), .ref rg, .int (nI m1), .int (nI m2), .int tg, .ref rs, .int (nI k), q_u, q_u, q_u, q_u, q_u, q_u, q_u] [.int (s.2.2.2.2.2.2.2.2.2.1 k), .ref b1] _
      refine t_appV X14 D_14 (by omega) (hid.imp fun m q => ⟨by omega, q.2⟩) (by simp only [List.length_append, List.length_cons, List.length_nil]; omega) dL_law_1332 (by simp only [List.length_cons, List.length_nil]; omega) (by omega) (by omega) (by omega) (fun h15 w15 X15 D_15 o_15 => ?_)
      have A_15 := A_14.on o_15 (by omega)
      have S_15 := S_14.on o_15 ⟨by omega, by omega⟩
      have le_15 := o_15.le
      change q_W _ _ _ _ _ _ _ _ 1335 [.ref 0, .ref 100, .int (nI t), .int (nI s.1), .int (nI na), .int (nI nb), .int (nI p), .int (nI u), .int a8, .int (nI s.2.2.2.2.2.2.2.2.1), .ref ri, .ref rj, .int (zAc s), .int (zRj s), .int st, .int (nI pv), .int gr, .int (zCd s (2 ^ s.1)), .int (zCt s (2 ^ s.1)), .ref rg, .int (nI m1), .int (nI m2), .int tg, .ref rs, .int (nI k), q_u, q_u, q_u, q_u, q_u, q_u, q_u] [.ref b1] _
      refine t_str X15 D_15 (by omega) (by simp only [List.length_append, List.length_cons, List.length_nil]; omega) dL_law_1335 (by simp only [List.length_cons, List.length_nil]; omega) (by omega) (by omega) (by omega) (fun h16 r16 v16 X16 Z_16 o_16 => ?_)
      have A_16 := A_15.on o_16 (by omega)
      have S_16 := S_15.on o_16 ⟨by omega, by omega⟩
      have le_16 := o_16.le
      change q_W _ _ _ _ _ _ _ _ 1338 [.ref 0, .ref 100, .int (nI t), .int (nI s.1), .int (nI na), .int (nI nb), .int (nI p), .int (nI u), .int a8, .int (nI s.2.2.2.2.2.2.2.2.1), .ref ri, .ref rj, .int (zAc s), .int (zRj s), .int st, .int (nI pv), .int gr, .int (zCd s (2 ^ s.1)), .int (zCt s (2 ^ s.1)), .ref rg, .int (nI m1), .int (nI m2), .int tg, .ref rs, .int (nI k), q_u, q_u, q_u, q_u, q_u, q_u, q_u] [.ref r16] _
      refine q_astoreS Z_16.lo dL_law_1338 (by decide) rfl ?_
      change q_W _ _ _ _ _ _ _ _ 1340 [.ref 0, .ref 100, .int (nI t), .int (nI s.1), .int (nI na), .int (nI nb), .int (nI p), .int (nI u), .int a8, .int (nI s.2.2.2.2.2.2.2.2.1), .ref ri, .ref rj, .int (zAc s), .int (zRj s), .int st, .int (nI pv), .int gr, .int (zCd s (2 ^ s.1)), .int (zCt s (2 ^ s.1)), .ref rg, .int (nI m1), .int (nI m2), .int tg, .ref r16, .int (nI k), q_u, q_u, q_u, q_u, q_u, q_u, q_u] [] _
      refine q_iinc (x := nI k) (v := nI (k + 1)) dL_law_1340 rfl (nI_add _ 1) rfl ?_
      change q_W _ _ _ _ _ _ _ _ 1343 [.ref 0, .ref 100, .int (nI t), .int (nI s.1), .int (nI na), .int (nI nb), .int (nI p), .int (nI u), .int a8, .int (nI s.2.2.2.2.2.2.2.2.1), .ref ri, .ref rj, .int (zAc s), .int (zRj s), .int st, .int (nI pv), .int gr, .int (zCd s (2 ^ s.1)), .int (zCt s (2 ^ s.1)), .ref rg, .int (nI m1), .int (nI m2), .int tg, .ref r16, .int (nI (k + 1)), q_u, q_u, q_u, q_u, q_u, q_u, q_u] [] _
      refine q_goto 1275 dL_law_1343 (by decide) ?_
      exact ih (k + 1) _ _ h16 r16 v16 _ (by omega) X16 A_16 (Z_16.down (by omega)) (by rw [hdp, hL, if_neg q, if_pos q2]; simp [List.append_assoc]) (by omega) (by omega)
    · refine q_if_le 1304 dL_law_1296 (by decide) (fun b => absurd b (fun c => by have := (nI_leI (b := 0) (by omega) (by omega)).mp c; omega)) (fun b => ?_)
      have C17 : z_Tx h2 0 19 30 [32] := z_Tx.const X2 5 0 (by decide)
      refine q_ldcS (k := 5) (by decide) rfl rfl dL_law_1299 ?_
      change q_W _ _ _ _ _ _ _ _ 1301 [.ref 0, .ref 100, .int (nI t), .int (nI s.1), .int (nI na), .int (nI nb), .int (nI p), .int (nI u), .int a8, .int (nI s.2.2.2.2.2.2.2.2.1), .ref ri, .ref rj, .int (zAc s), .int (zRj s), .int st, .int (nI pv), .int gr, .int (zCd s (2 ^ s.1)), .int (zCt s (2 ^ s.1)), .ref rg, .int (nI m1), .int (nI m2), .int tg, .ref rs, .int (nI k), q_u, q_u, q_u, q_u, q_u, q_u, q_u] [.ref 19, .ref b1] _
      refine q_goto 1306 dL_law_1301 (by decide) ?_
      refine t_appS X2 D_2 C17 ⟨by omega, by omega⟩ (by simp only [List.length_append, List.length_cons, List.length_nil]; omega) dL_law_1306 (by simp only [List.length_cons, List.length_nil]; omega) (by omega) (by omega) (by omega) (fun h18 w18 X18 D_18 o_18 => ?_)
      have A_18 := A_2.on o_18 (by omega)
      have S_18 := S_2.on o_18 ⟨by omega, by omega⟩
      have le_18 := o_18.le
      change q_W _ _ _ _ _ _ _ _ 1309 [.ref 0, .ref 100, .int (nI t), .int (nI s.1), .int (nI na), .int (nI nb), .int (nI p), .int (nI u), .int a8, .int (nI s.2.2.2.2.2.2.2.2.1), .ref ri, .ref rj, .int (zAc s), .int (zRj s), .int st, .int (nI pv), .int gr, .int (zCd s (2 ^ s.1)), .int (zCt s (2 ^ s.1)), .ref rg, .int (nI m1), .int (nI m2), .int tg, .ref rs, .int (nI k), q_u, q_u, q_u, q_u, q_u, q_u, q_u] [.ref b1] _
      refine q_iload dL_law_1309 rfl ?_
      refine q_iconst (v := 2) dL_law_1311 rfl ?_
      refine q_iremN (a := k) (b := 2) (by omega) (by omega) (by omega) dL_law_1312 ?_
      refine q_if_ne 1321 dL_law_1313 (by decide) (fun b => ?_) (fun b => q2 ((nI_eq (a := k % 2) (b := 0) (by omega) (by omega)).mp b) |>.elim)
      have C19 : z_Tx h18 0 21 32 [111] := z_Tx.const X18 7 0 (by decide)
      refine q_ldcS (k := 7) (by decide) rfl rfl dL_law_1321 ?_
      change q_W _ _ _ _ _ _ _ _ 1323 [.ref 0, .ref 100, .int (nI t), .int (nI s.1), .int (nI na), .int (nI nb), .int (nI p), .int (nI u), .int a8, .int (nI s.2.2.2.2.2.2.2.2.1), .ref ri, .ref rj, .int (zAc s), .int (zRj s), .int st, .int (nI pv), .int gr, .int (zCd s (2 ^ s.1)), .int (zCt s (2 ^ s.1)), .ref rg, .int (nI m1), .int (nI m2), .int tg, .ref rs, .int (nI k), q_u, q_u, q_u, q_u, q_u, q_u, q_u] [.ref 21, .ref b1] _
      refine t_appS X18 D_18 C19 ⟨by omega, by omega⟩ (by simp only [List.length_append, List.length_cons, List.length_nil]; omega) dL_law_1323 (by simp only [List.length_cons, List.length_nil]; omega) (by omega) (by omega) (by omega) (fun h20 w20 X20 D_20 o_20 => ?_)
      have A_20 := A_18.on o_20 (by omega)
      have S_20 := S_18.on o_20 ⟨by omega, by omega⟩
      have le_20 := o_20.le
      change q_W _ _ _ _ _ _ _ _ 1326 [.ref 0, .ref 100, .int (nI t), .int (nI s.1), .int (nI na), .int (nI nb), .int (nI p), .int (nI u), .int a8, .int (nI s.2.2.2.2.2.2.2.2.1), .ref ri, .ref rj, .int (zAc s), .int (zRj s), .int st, .int (nI pv), .int gr, .int (zCd s (2 ^ s.1)), .int (zCt s (2 ^ s.1)), .ref rg, .int (nI m1), .int (nI m2), .int tg, .ref rs, .int (nI k), q_u, q_u, q_u, q_u, q_u, q_u, q_u] [.ref b1] _
      refine q_aload_n (by decide) dL_law_1326 rfl ?_
      refine q_iload dL_law_1327 rfl ?_
      obtain ⟨fo21, ho21⟩ := X20.obj
      refine q_invV (mc' := 1) (ms' := 6) (d' := d - 1) (as := [.int (nI k)]) dL_law_1329 kM_X10_moveAt kL_L_73 kI_X10_moveAt kS_X10_moveAt rfl (kC_X10.1) ho21 rfl rfl (Nat.le_of_ble_eq_true rfl) (by omega) (by decide) (by omega) (by omega) (k_moveAt (d := d - 1) X20 V hk (by omega)) (q_kC (fun h21 hB => ?_)) q_xC
      obtain ⟨X21, z_21⟩ := hB
      have A_21 := A_20.zone z_21
      have S_21 := S_20.zone z_21
      have D_21 := D_20.zone z_21
      have lz_21 := z_21.1
      change q_W _ _ _ _ _ _ _ _ 1332 [.ref 0, .ref 100, .int (nI t), .int (nI s.1), .int (nI na), .int (nI nb), .int (nI p), .int (nI u), .int a8, .int (nI s.2.2.2.2.2.2.2.2.1), .ref ri, .ref rj, .int (zAc s), .int (zRj s), .int st, .int (nI pv), .int gr, .int (zCd s (2 ^ s.1)), .int (zCt s (2 ^ s.1)), .ref rg, .int (nI m1), .int (nI m2), .int tg, .ref rs, .int (nI k), q_u, q_u, q_u, q_u, q_u, q_u, q_u] [.int (s.2.2.2.2.2.2.2.2.2.1 k), .ref b1] _
      refine t_appV X21 D_21 (by omega) (hid.imp fun m q => ⟨by omega, q.2⟩) (by simp only [List.length_append, List.length_cons, List.length_nil]; omega) dL_law_1332 (by simp only [List.length_cons, List.length_nil]; omega) (by omega) (by omega) (by omega) (fun h22 w22 X22 D_22 o_22 => ?_)
      have A_22 := A_21.on o_22 (by omega)
      have S_22 := S_21.on o_22 ⟨by omega, by omega⟩
      have le_22 := o_22.le
      change q_W _ _ _ _ _ _ _ _ 1335 [.ref 0, .ref 100, .int (nI t), .int (nI s.1), .int (nI na), .int (nI nb), .int (nI p), .int (nI u), .int a8, .int (nI s.2.2.2.2.2.2.2.2.1), .ref ri, .ref rj, .int (zAc s), .int (zRj s), .int st, .int (nI pv), .int gr, .int (zCd s (2 ^ s.1)), .int (zCt s (2 ^ s.1)), .ref rg, .int (nI m1), .int (nI m2), .int tg, .ref rs, .int (nI k), q_u, q_u, q_u, q_u, q_u, q_u, q_u] [.ref b1] _
      refine t_str X22 D_22 (by omega) (by simp only [List.length_append, List.length_cons, List.length_nil]; omega) dL_law_1335 (by simp only [List.length_cons, List.length_nil]; omega) (by omega) (by omega) (by omega) (fun h23 r23 v23 X23 Z_23 o_23 => ?_)
      have A_23 := A_22.on o_23 (by omega)
      have S_23 := S_22.on o_23 ⟨by omega, by omega⟩
      have le_23 := o_23.le
      change q_W _ _ _ _ _ _ _ _ 1338 [.ref 0, .ref 100, .int (nI t), .int (nI s.1), .int (nI na), .int (nI nb), .int (nI p), .int (nI u), .int a8, .int (nI s.2.2.2.2.2.2.2.2.1), .ref ri, .ref rj, .int (zAc s), .int (zRj s), .int st, .int (nI pv), .int gr, .int (zCd s (2 ^ s.1)), .int (zCt s (2 ^ s.1)), .ref rg, .int (nI m1), .int (nI m2), .int tg, .ref rs, .int (nI k), q_u, q_u, q_u, q_u, q_u, q_u, q_u] [.ref r23] _
      refine q_astoreS Z_23.lo dL_law_1338 (by decide) rfl ?_
      change q_W _ _ _ _ _ _ _ _ 1340 [.ref 0, .ref 100, .int (nI t), .int (nI s.1), .int (nI na), .int (nI nb), .int (nI p), .int (nI u), .int a8, .int (nI s.2.2.2.2.2.2.2.2.1), .ref ri, .ref rj, .int (zAc s), .int (zRj s), .int st, .int (nI pv), .int gr, .int (zCd s (2 ^ s.1)), .int (zCt s (2 ^ s.1)), .ref rg, .int (nI m1), .int (nI m2), .int tg, .ref r23, .int (nI k), q_u, q_u, q_u, q_u, q_u, q_u, q_u] [] _
      refine q_iinc (x := nI k) (v := nI (k + 1)) dL_law_1340 rfl (nI_add _ 1) rfl ?_
      change q_W _ _ _ _ _ _ _ _ 1343 [.ref 0, .ref 100, .int (nI t), .int (nI s.1), .int (nI na), .int (nI nb), .int (nI p), .int (nI u), .int a8, .int (nI s.2.2.2.2.2.2.2.2.1), .ref ri, .ref rj, .int (zAc s), .int (zRj s), .int st, .int (nI pv), .int gr, .int (zCd s (2 ^ s.1)), .int (zCt s (2 ^ s.1)), .ref rg, .int (nI m1), .int (nI m2), .int tg, .ref r23, .int (nI (k + 1)), q_u, q_u, q_u, q_u, q_u, q_u, q_u] [] _
      refine q_goto 1275 dL_law_1343 (by decide) ?_
      exact ih (k + 1) _ _ h23 r23 v23 _ (by omega) X23 A_23 (Z_23.down (by omega)) (by rw [hdp, hL, if_neg q, if_neg q2]; simp [List.append_assoc]) (by omega) (by omega)
set_option maxRecDepth 100000 in
set_option maxHeartbeats 8000000 in
theorem l_dline {t na nb a9 p u ri rj rg m1 m2 pv KC KS : Nat} {a8 st gr tg : Int32} {lc : Nat} {fl : Nat → Int32} (V : z_V B s) (hB : B ≤ 1000) (hd : 30 ≤ d) (hKC : KC ≤ mc) (hKS : KS ≤ ms)
    (K : ∀ kc ks h lc fl, z_X h s lc fl → z_arr 0 h ri s.1 s.2.1 → kc ≤ KC → ks ≤ KS → q_W g mL_law d mc ms Q kc ks 1379 [.ref 0, .ref 100, .int (nI t), .int (nI s.1), .int (nI na), .int (nI nb), .int (nI p), .int (nI u), .int a8, .int (nI s.2.2.2.2.2.2.2.2.1), .ref ri, .ref rj, .int (zAc s), .int (zRj s), .int st, .int (nI pv), .int gr, .int (zCd s (2 ^ s.1)), .int (zCt s (2 ^ s.1)), .ref rg, .int (nI m1), .int (nI m2), .int tg, q_u, q_u, q_u, q_u, q_u, q_u, q_u, q_u, q_u] [] h) :
    ∀ kc ks h rs vs, z_X h s lc fl → z_arr 0 h ri s.1 s.2.1 → z_Tx h (ri + 1) rs vs (z_dP s.2.2.2.2.2.2.2.2.2.1 s.2.2.2.2.2.2.2.2.1) → kc + 200 ≤ KC → ks + 12000 ≤ KS → q_W g mL_law d mc ms Q kc ks 1346 [.ref 0, .ref 100, .int (nI t), .int (nI s.1), .int (nI na), .int (nI nb), .int (nI p), .int (nI u), .int a8, .int (nI s.2.2.2.2.2.2.2.2.1), .ref ri, .ref rj, .int (zAc s), .int (zRj s), .int st, .int (nI pv), .int gr, .int (zCd s (2 ^ s.1)), .int (zCt s (2 ^ s.1)), .ref rg, .int (nI m1), .int (nI m2), .int tg, .ref rs, .int (nI s.2.2.2.2.2.2.2.2.1), q_u, q_u, q_u, q_u, q_u, q_u, q_u] [] h := by
  have h8 := V.1.1
  have h12 := V.1.2.1
  intro kc ks h rs vs X A S hkc hks
  refine q_iload dL_law_1346 rfl ?_
  refine q_if_le 1367 dL_law_1348 (by decide) (fun b => ?_) (fun b => ?_)
  · have hm0 : s.2.2.2.2.2.2.2.2.1 = 0 := by
        have := (nI_leI (b := 0) (by omega) (by omega)).mp b
        omega
    refine q_aload_n (by decide) dL_law_1367 rfl ?_
    refine q_invSH (mc' := 38) (ms' := 10588) (d' := d - 1) (as := [.ref 100]) dL_law_1368 kM_L_formatDialogue kL_L_236 kT_L_formatDialogue rfl rfl rfl (Nat.le_of_ble_eq_true rfl) (by omega) (by decide) (by omega) (by omega) (w_formatDialogue0 (d := d - 1) X V (by omega) hm0 (by omega)) (q_kC (fun h1 hB => ?_)) q_xC
    obtain ⟨X1, z_1⟩ := hB
    have A_1 := A.zone z_1
    have S_1 := S.zone z_1
    change q_W _ _ _ _ _ _ _ _ 1371 [.ref 0, .ref 100, .int (nI t), .int (nI s.1), .int (nI na), .int (nI nb), .int (nI p), .int (nI u), .int a8, .int (nI s.2.2.2.2.2.2.2.2.1), .ref ri, .ref rj, .int (zAc s), .int (zRj s), .int st, .int (nI pv), .int gr, .int (zCd s (2 ^ s.1)), .int (zCt s (2 ^ s.1)), .ref rg, .int (nI m1), .int (nI m2), .int tg, .ref rs, .int (nI s.2.2.2.2.2.2.2.2.1), q_u, q_u, q_u, q_u, q_u, q_u, q_u] [.int (-30000)] _
    refine q_sipush (v := -30000) dL_law_1371 rfl ?_
    refine q_icmp_eq 1379 dL_law_1374 (by decide) (fun b => ?_) (fun b => absurd rfl b)
    refine q_forget 23 ?_
    refine q_forget 24 ?_
    change q_W _ _ _ _ _ _ _ _ 1379 [.ref 0, .ref 100, .int (nI t), .int (nI s.1), .int (nI na), .int (nI nb), .int (nI p), .int (nI u), .int a8, .int (nI s.2.2.2.2.2.2.2.2.1), .ref ri, .ref rj, .int (zAc s), .int (zRj s), .int st, .int (nI pv), .int gr, .int (zCd s (2 ^ s.1)), .int (zCt s (2 ^ s.1)), .ref rg, .int (nI m1), .int (nI m2), .int tg, q_u, q_u, q_u, q_u, q_u, q_u, q_u, q_u, q_u] [] _
    exact K _ _ h1 _ _ X1 A_1 (by omega) (by omega)
  · have hm0 : ¬ s.2.2.2.2.2.2.2.2.1 = 0 := fun c => b (by rw [c]; decide)
    refine q_aload_n (by decide) dL_law_1351 rfl ?_
    refine q_aload_n (by decide) dL_law_1352 rfl ?_
    obtain ⟨fo2, ho2⟩ := X.obj
    refine q_invV (mc' := 38) (ms' := 10588) (d' := d - 1) (as := []) dL_law_1353 kM_X10_formatDialogue kL_L_76 kI_X10_formatDialogue kS_X10_formatDialogue rfl (kC_X10.1) ho2 rfl rfl (Nat.le_of_ble_eq_true rfl) (by omega) (by decide) (by omega) (by omega) (k_formatDialogue (d := d - 1) X V (by omega) hm0 (by omega)) (fun v2 h2 hB => ?_) (fun E2 h2 hB => by
        obtain ⟨l9, f9, t9, e9, -⟩ := hB
        cases e9)
    obtain ⟨ln, fn, tn, e9, X2, z_2⟩ := hB
    injection e9 with e9
    subst e9
    have A_2 := A.zone z_2
    have S_2 := S.zone z_2
    change q_W _ _ _ _ _ _ _ _ 1356 [.ref 0, .ref 100, .int (nI t), .int (nI s.1), .int (nI na), .int (nI nb), .int (nI p), .int (nI u), .int a8, .int (nI s.2.2.2.2.2.2.2.2.1), .ref ri, .ref rj, .int (zAc s), .int (zRj s), .int st, .int (nI pv), .int gr, .int (zCd s (2 ^ s.1)), .int (zCt s (2 ^ s.1)), .ref rg, .int (nI m1), .int (nI m2), .int tg, .ref rs, .int (nI s.2.2.2.2.2.2.2.2.1), q_u, q_u, q_u, q_u, q_u, q_u, q_u] [.int (nI ln), .ref 100] _
    refine q_aloadS S_2.lo dL_law_1356 rfl ?_
    obtain ⟨nz, fz, Sz, tz, -⟩ := S_2
    refine q_invS (mc' := 142) (ms' := 852) (d' := d - 1) (as := [.ref 100, .int (nI ln), .ref rs]) dL_law_1358 kM_L_isLine kL_L_205 kT_L_isLine rfl rfl rfl (Nat.le_of_ble_eq_true rfl) (by omega) (by decide) (by omega) (by omega) (e_isLine (d := d - 1) X2 Sz tn tz (by omega)) (q_kC (fun h3 hB => ?_)) q_xC
    obtain ⟨X3, z_3⟩ := hB
    have A_3 := A_2.zone z_3
    change q_W _ _ _ _ _ _ _ _ 1361 [.ref 0, .ref 100, .int (nI t), .int (nI s.1), .int (nI na), .int (nI nb), .int (nI p), .int (nI u), .int a8, .int (nI s.2.2.2.2.2.2.2.2.1), .ref ri, .ref rj, .int (zAc s), .int (zRj s), .int st, .int (nI pv), .int gr, .int (zCd s (2 ^ s.1)), .int (zCt s (2 ^ s.1)), .ref rg, .int (nI m1), .int (nI m2), .int tg, .ref rs, .int (nI s.2.2.2.2.2.2.2.2.1), q_u, q_u, q_u, q_u, q_u, q_u, q_u] [.int 1] _
    refine q_if_ne 1379 dL_law_1361 (by decide) (fun b => ?_) (fun b => absurd b (by decide))
    refine q_forget 23 ?_
    refine q_forget 24 ?_
    change q_W _ _ _ _ _ _ _ _ 1379 [.ref 0, .ref 100, .int (nI t), .int (nI s.1), .int (nI na), .int (nI nb), .int (nI p), .int (nI u), .int a8, .int (nI s.2.2.2.2.2.2.2.2.1), .ref ri, .ref rj, .int (zAc s), .int (zRj s), .int st, .int (nI pv), .int gr, .int (zCd s (2 ^ s.1)), .int (zCt s (2 ^ s.1)), .ref rg, .int (nI m1), .int (nI m2), .int tg, q_u, q_u, q_u, q_u, q_u, q_u, q_u, q_u, q_u] [] _
    exact K _ _ h3 _ _ X3 A_3 (by omega) (by omega)
end DLG
