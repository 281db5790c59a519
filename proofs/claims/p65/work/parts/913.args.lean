/-! the law's turn: what it tells of every argument -/
theorem z_mx : ∀ w, w < 10 → ∀ a, a < 91 → (if (1 : Int32) ≤ nI w - nI a / 10 then nI w - nI a / 10 else 1) = (if (1 : Int32) < nI w - nI a / 10 then nI w - nI a / 10 else 1) := by decide +kernel
section LARG
variable {g : q_G} {d mc ms : Nat} {Q : q_O → q_H → Prop} {s : ZS} {B : Nat}
set_option maxRecDepth 100000 in
set_option maxHeartbeats 8000000 in
theorem l_arg {t a9 v ri rj KC KS : Nat} (V : z_V B s) (hB : B ≤ 1000) (hv : v < s.1) (ho : q_isold g 0) (hIJ : ri < rj) (hd : 30 ≤ d) (hKC : KC ≤ mc) (hKS : KS ≤ ms)
    (K : ∀ kc ks h lc fl, z_X h s lc fl → z_arr 0 h ri s.1 s.2.1 → z_arr 0 h rj s.1 (zBy s (v + 1) 0) → kc ≤ KC → ks ≤ KS → q_W g mL_law d mc ms Q kc ks 465 [.ref 0, .ref 100, .int (nI t), .int (nI s.1), .int (nI (zAs s (v + 1))), .int (nI (zWs s (v + 1))), .int 0, .int 0, .int (zTs s (v + 1)), .int (nI a9), .ref ri, .ref rj, .int (nI v), q_u, q_u, q_u, q_u, q_u, q_u, q_u, q_u, q_u, q_u, q_u, q_u, q_u, q_u, q_u, q_u, q_u, q_u, q_u] [] h) :
    ∀ kc ks h lc fl, z_X h s lc fl → z_arr 0 h ri s.1 s.2.1 → z_arr 0 h rj s.1 (zBy s v 0) → kc + 500 ≤ KC → ks + 40000 ≤ KS → q_W g mL_law d mc ms Q kc ks 118 [.ref 0, .ref 100, .int (nI t), .int (nI s.1), .int (nI (zAs s v)), .int (nI (zWs s v)), .int 0, .int 0, .int (zTs s v), .int (nI a9), .ref ri, .ref rj, .int (nI v), .int (s.2.1 v), .int 0, q_u, q_u, q_u, q_u, q_u, q_u, q_u, q_u, q_u, q_u, q_u, q_u, q_u, q_u, q_u, q_u, q_u] [] h := by
  intro kc ks h lc fl X A B hkc hks
  have h8 := V.1.1
  obtain ⟨wn, w1, w2, ew⟩ := V.1.2.2.2.2.1 v hv
  obtain ⟨an, a1, ea⟩ := V.1.2.2.2.2.2.1 v hv
  obtain ⟨sn, s1, es⟩ := z_strB V.1 hv
  obtain ⟨im, i1, ei⟩ := V.id hv
  have hix : ∃ m, m < 1000 ∧ s.2.1 v = nI m := ⟨im, by omega, ei⟩
  have hwx : ∃ m, m < 1000 ∧ s.2.2.1 v = nI m := ⟨wn, by omega, ew⟩
  have hsx : ∃ m, m < 1000 ∧ zStr s v = nI m := ⟨sn, by omega, es⟩
  have hd1 := z_dgl hix
  have hd2 := z_dgl hwx
  have hd3 := z_dgl hsx
  have hle := z_lPlen3 V hB v s.1 (Nat.le_refl _)
  have hw : zStr s v = if (1 : Int32) < s.2.2.1 v - s.2.2.2.1 v / 10 then s.2.2.1 v - s.2.2.2.1 v / 10 else 1 := by
    unfold zStr x_st_strength
    rw [ew, ea]
    exact z_mx wn (by omega) an (by omega)
  refine q_aload_n (by decide) dL_law_118 rfl ?_
  refine q_iload dL_law_119 rfl ?_
  obtain ⟨fo1, ho1⟩ := X.obj
  refine q_invV (mc' := 1) (ms' := 6) (d' := d - 1) (as := [.int (s.2.1 v)]) dL_law_121 kM_X10_strengthOf kL_L_148 kI_X10_strengthOf kS_X10_strengthOf rfl (kC_X10.1) ho1 rfl rfl (Nat.le_of_ble_eq_true rfl) (by omega) (by decide) (by omega) (by omega) (k_strengthOf (d := d - 1) X V hv (by omega)) (q_kC (fun h1 hB => ?_)) q_xC
  obtain ⟨X1, z_1⟩ := hB
  have A_1 := A.zone z_1
  have B_1 := B.zone z_1
  change q_W _ _ _ _ _ _ _ _ 124 [.ref 0, .ref 100, .int (nI t), .int (nI s.1), .int (nI (zAs s v)), .int (nI (zWs s v)), .int 0, .int 0, .int (zTs s v), .int (nI a9), .ref ri, .ref rj, .int (nI v), .int (s.2.1 v), .int 0, q_u, q_u, q_u, q_u, q_u, q_u, q_u, q_u, q_u, q_u, q_u, q_u, q_u, q_u, q_u, q_u, q_u] [.int (zStr s v)] _
  refine q_iconst (v := 1) dL_law_124 rfl ?_
  refine q_aload_n (by decide) dL_law_125 rfl ?_
  refine q_iload dL_law_126 rfl ?_
  obtain ⟨fo2, ho2⟩ := X1.obj
  refine q_invV (mc' := 1) (ms' := 6) (d' := d - 1) (as := [.int (s.2.1 v)]) dL_law_128 kM_X10_weightOf kL_L_151 kI_X10_weightOf kS_X10_weightOf rfl (kC_X10.1) ho2 rfl rfl (Nat.le_of_ble_eq_true rfl) (by omega) (by decide) (by omega) (by omega) (k_weightOf (d := d - 1) X1 V hv (by omega)) (q_kC (fun h2 hB => ?_)) q_xC
  obtain ⟨X2, z_2⟩ := hB
  have A_2 := A_1.zone z_2
  have B_2 := B_1.zone z_2
  change q_W _ _ _ _ _ _ _ _ 131 [.ref 0, .ref 100, .int (nI t), .int (nI s.1), .int (nI (zAs s v)), .int (nI (zWs s v)), .int 0, .int 0, .int (zTs s v), .int (nI a9), .ref ri, .ref rj, .int (nI v), .int (s.2.1 v), .int 0, q_u, q_u, q_u, q_u, q_u, q_u, q_u, q_u, q_u, q_u, q_u, q_u, q_u, q_u, q_u, q_u, q_u] [.int (s.2.2.1 v), .int 1, .int (zStr s v)] _
  refine q_aload_n (by decide) dL_law_131 rfl ?_
  refine q_iload dL_law_132 rfl ?_
  obtain ⟨fo3, ho3⟩ := X2.obj
  refine q_invV (mc' := 1) (ms' := 6) (d' := d - 1) (as := [.int (s.2.1 v)]) dL_law_134 kM_X10_ageOf kL_L_154 kI_X10_ageOf kS_X10_ageOf rfl (kC_X10.1) ho3 rfl rfl (Nat.le_of_ble_eq_true rfl) (by omega) (by decide) (by omega) (by omega) (k_ageOf (d := d - 1) X2 V hv (by omega)) (q_kC (fun h3 hB => ?_)) q_xC
  obtain ⟨X3, z_3⟩ := hB
  have A_3 := A_2.zone z_3
  have B_3 := B_2.zone z_3
  change q_W _ _ _ _ _ _ _ _ 137 [.ref 0, .ref 100, .int (nI t), .int (nI s.1), .int (nI (zAs s v)), .int (nI (zWs s v)), .int 0, .int 0, .int (zTs s v), .int (nI a9), .ref ri, .ref rj, .int (nI v), .int (s.2.1 v), .int 0, q_u, q_u, q_u, q_u, q_u, q_u, q_u, q_u, q_u, q_u, q_u, q_u, q_u, q_u, q_u, q_u, q_u] [.int (s.2.2.2.1 v), .int (s.2.2.1 v), .int 1, .int (zStr s v)] _
  refine q_bipush (v := 10) dL_law_137 rfl ?_
  refine q_idiv dL_law_139 (by decide) ?_
  refine q_isub dL_law_140 ?_
  refine q_mmax kL_L_157 kT_J9_max_7cf53 (kM_J9_max_7cf53.2.2.2.1) rfl dL_law_141 (Nat.le_of_ble_eq_true rfl) (by omega) (by omega) (by omega) ?_
  change q_W _ _ _ _ _ _ _ _ 144 [.ref 0, .ref 100, .int (nI t), .int (nI s.1), .int (nI (zAs s v)), .int (nI (zWs s v)), .int 0, .int 0, .int (zTs s v), .int (nI a9), .ref ri, .ref rj, .int (nI v), .int (s.2.1 v), .int 0, q_u, q_u, q_u, q_u, q_u, q_u, q_u, q_u, q_u, q_u, q_u, q_u, q_u, q_u, q_u, q_u, q_u] [.int (if (1 : Int32) < s.2.2.1 v - s.2.2.2.1 v / 10 then s.2.2.1 v - s.2.2.2.1 v / 10 else 1), .int (zStr s v)] _
  refine q_icmp_ne 158 dL_law_144 (by decide) (fun b => absurd hw b) (fun b => ?_)
  refine q_aload_n (by decide) dL_law_147 rfl ?_
  refine q_iload dL_law_148 rfl ?_
  obtain ⟨fo4, ho4⟩ := X3.obj
  refine q_invV (mc' := 1) (ms' := 6) (d' := d - 1) (as := [.int (s.2.1 v)]) dL_law_150 kM_X10_ageOf kL_L_154 kI_X10_ageOf kS_X10_ageOf rfl (kC_X10.1) ho4 rfl rfl (Nat.le_of_ble_eq_true rfl) (by omega) (by decide) (by omega) (by omega) (k_ageOf (d := d - 1) X3 V hv (by omega)) (q_kC (fun h4 hB => ?_)) q_xC
  obtain ⟨X4, z_4⟩ := hB
  have A_4 := A_3.zone z_4
  have B_4 := B_3.zone z_4
  change q_W _ _ _ _ _ _ _ _ 153 [.ref 0, .ref 100, .int (nI t), .int (nI s.1), .int (nI (zAs s v)), .int (nI (zWs s v)), .int 0, .int 0, .int (zTs s v), .int (nI a9), .ref ri, .ref rj, .int (nI v), .int (s.2.1 v), .int 0, q_u, q_u, q_u, q_u, q_u, q_u, q_u, q_u, q_u, q_u, q_u, q_u, q_u, q_u, q_u, q_u, q_u] [.int (s.2.2.2.1 v)] _
  refine q_bipush (v := 90) dL_law_153 rfl ?_
  refine q_icmp_le 160 dL_law_155 (by decide) (fun b => ?_) (fun b => absurd (show s.2.2.2.1 v ≤ 90 by rw [ea]; exact (nI_leI (b := 90) (by omega) (by omega)).mpr a1) b)
  have S : z_Tx h4 (rj + 1) 14 25 [] := z_Tx.const X4 0 (rj + 1) (by decide)
  refine q_ldcS (k := 0) (by decide) rfl rfl dL_law_160 ?_
  change q_W _ _ _ _ _ _ _ _ 162 [.ref 0, .ref 100, .int (nI t), .int (nI s.1), .int (nI (zAs s v)), .int (nI (zWs s v)), .int 0, .int 0, .int (zTs s v), .int (nI a9), .ref ri, .ref rj, .int (nI v), .int (s.2.1 v), .int 0, q_u, q_u, q_u, q_u, q_u, q_u, q_u, q_u, q_u, q_u, q_u, q_u, q_u, q_u, q_u, q_u, q_u] [.ref 14] _
  refine q_astoreS S.lo dL_law_162 (by decide) rfl ?_
  change q_W _ _ _ _ _ _ _ _ 164 [.ref 0, .ref 100, .int (nI t), .int (nI s.1), .int (nI (zAs s v)), .int (nI (zWs s v)), .int 0, .int 0, .int (zTs s v), .int (nI a9), .ref ri, .ref rj, .int (nI v), .int (s.2.1 v), .int 0, .ref 14, q_u, q_u, q_u, q_u, q_u, q_u, q_u, q_u, q_u, q_u, q_u, q_u, q_u, q_u, q_u, q_u] [] _
  refine q_iconst (v := 0) dL_law_164 rfl ?_
  refine q_istore dL_law_165 (by decide) rfl ?_
  change q_W _ _ _ _ _ _ _ _ 167 [.ref 0, .ref 100, .int (nI t), .int (nI s.1), .int (nI (zAs s v)), .int (nI (zWs s v)), .int 0, .int 0, .int (zTs s v), .int (nI a9), .ref ri, .ref rj, .int (nI v), .int (s.2.1 v), .int 0, .ref 14, .int 0, q_u, q_u, q_u, q_u, q_u, q_u, q_u, q_u, q_u, q_u, q_u, q_u, q_u, q_u, q_u] [] _
  refine l_in (t := t) (a5 := zWs s v) (a9 := a9) (v := v) (ri := ri) (rj := rj) (KC := KC - 300) (KS := KS - 20000) V hB hv ho hIJ hd (by omega) (by omega) (fun kc ks h0 na c j rs vs L X A B S hL hna hc hj hkc hks => ?_) s.1 0 _ _ _ (zAs s v) 0 14 25 [] (by omega) X4 A_4 B_4 S rfl rfl rfl (by omega) (by omega)
  subst hna hc hj hL
  have hg := g_bcA V hv
  change q_W _ _ _ _ _ _ _ _ 345 [.ref 0, .ref 100, .int (nI t), .int (nI s.1), .int (nI (zAs s v + zCl s v s.1)), .int (nI (zWs s v)), .int 0, .int 0, .int (zTs s v), .int (nI a9), .ref ri, .ref rj, .int (nI v), .int (s.2.1 v), .int (nI (z_cn (s.2.2.2.2.2.1 v) s.1)), .ref rs, .int (nI s.1), q_u, q_u, q_u, q_u, q_u, q_u, q_u, q_u, q_u, q_u, q_u, q_u, q_u, q_u, q_u] [] _
  refine q_iload dL_law_345 rfl ?_
  refine q_iload dL_law_347 rfl ?_
  refine q_iaddN (a := zWs s v) (b := z_cn (s.2.2.2.2.2.1 v) s.1) dL_law_349 ?_
  refine q_istore dL_law_350 (by decide) rfl ?_
  change q_W _ _ _ _ _ _ _ _ 352 [.ref 0, .ref 100, .int (nI t), .int (nI s.1), .int (nI (zAs s v + zCl s v s.1)), .int (nI ((zWs s v) + (z_cn (s.2.2.2.2.2.1 v) s.1))), .int 0, .int 0, .int (zTs s v), .int (nI a9), .ref ri, .ref rj, .int (nI v), .int (s.2.1 v), .int (nI (z_cn (s.2.2.2.2.2.1 v) s.1)), .ref rs, .int (nI s.1), q_u, q_u, q_u, q_u, q_u, q_u, q_u, q_u, q_u, q_u, q_u, q_u, q_u, q_u, q_u] [] _
  refine q_iload dL_law_352 rfl ?_
  refine q_aload_n (by decide) dL_law_354 rfl ?_
  refine q_iload dL_law_355 rfl ?_
  obtain ⟨fo5, ho5⟩ := X.obj
  refine q_invV (mc' := 1) (ms' := 6) (d' := d - 1) (as := [.int (s.2.1 v)]) dL_law_357 kM_X10_strengthOf kL_L_148 kI_X10_strengthOf kS_X10_strengthOf rfl (kC_X10.1) ho5 rfl rfl (Nat.le_of_ble_eq_true rfl) (by omega) (by decide) (by omega) (by omega) (k_strengthOf (d := d - 1) X V hv (by omega)) (q_kC (fun h5 hB => ?_)) q_xC
  obtain ⟨X5, z_5⟩ := hB
  have A_5 := A.zone z_5
  have B_5 := B.zone z_5
  have S_5 := S.zone z_5
  change q_W _ _ _ _ _ _ _ _ 360 [.ref 0, .ref 100, .int (nI t), .int (nI s.1), .int (nI (zAs s v + zCl s v s.1)), .int (nI ((zWs s v) + (z_cn (s.2.2.2.2.2.1 v) s.1))), .int 0, .int 0, .int (zTs s v), .int (nI a9), .ref ri, .ref rj, .int (nI v), .int (s.2.1 v), .int (nI (z_cn (s.2.2.2.2.2.1 v) s.1)), .ref rs, .int (nI s.1), q_u, q_u, q_u, q_u, q_u, q_u, q_u, q_u, q_u, q_u, q_u, q_u, q_u, q_u, q_u] [.int (zStr s v), .int (zTs s v)] _
  refine q_iadd dL_law_360 ?_
  refine q_istore dL_law_361 (by decide) rfl ?_
  change q_W _ _ _ _ _ _ _ _ 363 [.ref 0, .ref 100, .int (nI t), .int (nI s.1), .int (nI (zAs s v + zCl s v s.1)), .int (nI ((zWs s v) + (z_cn (s.2.2.2.2.2.1 v) s.1))), .int 0, .int 0, .int (((zTs s v)) + ((zStr s v))), .int (nI a9), .ref ri, .ref rj, .int (nI v), .int (s.2.1 v), .int (nI (z_cn (s.2.2.2.2.2.1 v) s.1)), .ref rs, .int (nI s.1), q_u, q_u, q_u, q_u, q_u, q_u, q_u, q_u, q_u, q_u, q_u, q_u, q_u, q_u, q_u] [] _
  refine q_aload_n (by decide) dL_law_363 rfl ?_
  refine q_iload dL_law_364 rfl ?_
  obtain ⟨fo6, ho6⟩ := X5.obj
  refine q_invV (mc' := 1) (ms' := 6) (d' := d - 1) (as := [.int (s.2.1 v)]) dL_law_366 kM_X10_attackerCount kL_L_187 kI_X10_attackerCount kS_X10_attackerCount rfl (kC_X10.1) ho6 rfl rfl (Nat.le_of_ble_eq_true rfl) (by omega) (by decide) (by omega) (by omega) (k_attackerCount (d := d - 1) X5 V hv (by omega)) (q_kC (fun h6 hB => ?_)) q_xC
  obtain ⟨X6, z_6⟩ := hB
  have A_6 := A_5.zone z_6
  have B_6 := B_5.zone z_6
  have S_6 := S_5.zone z_6
  change q_W _ _ _ _ _ _ _ _ 369 [.ref 0, .ref 100, .int (nI t), .int (nI s.1), .int (nI (zAs s v + zCl s v s.1)), .int (nI ((zWs s v) + (z_cn (s.2.2.2.2.2.1 v) s.1))), .int 0, .int 0, .int (((zTs s v)) + ((zStr s v))), .int (nI a9), .ref ri, .ref rj, .int (nI v), .int (s.2.1 v), .int (nI (z_cn (s.2.2.2.2.2.1 v) s.1)), .ref rs, .int (nI s.1), q_u, q_u, q_u, q_u, q_u, q_u, q_u, q_u, q_u, q_u, q_u, q_u, q_u, q_u, q_u] [.int (z_bc (s.2.2.2.2.2.1 v))] _
  refine q_iload dL_law_369 rfl ?_
  refine q_icmp_ne 463 dL_law_371 (by decide) (fun b => absurd hg b) (fun b => ?_)
  refine q_aload_n (by decide) dL_law_374 rfl ?_
  refine q_iload dL_law_375 rfl ?_
  refine q_iload dL_law_377 rfl ?_
  refine q_invSH (mc' := 2) (ms' := 12) (d' := d - 1) (as := [.ref 100, .int (s.2.1 v), .int (nI (z_cn (s.2.2.2.2.2.1 v) s.1))]) dL_law_379 kM_L_attackerAt kL_L_169 kT_L_attackerAt rfl rfl rfl (Nat.le_of_ble_eq_true rfl) (by omega) (by decide) (by omega) (by omega) (w_attackerAtN (d := d - 1) X6 V hv (by omega)) (q_kC (fun h7 hB => ?_)) q_xC
  obtain ⟨X7, z_7⟩ := hB
  have A_7 := A_6.zone z_7
  have B_7 := B_6.zone z_7
  have S_7 := S_6.zone z_7
  change q_W _ _ _ _ _ _ _ _ 382 [.ref 0, .ref 100, .int (nI t), .int (nI s.1), .int (nI (zAs s v + zCl s v s.1)), .int (nI ((zWs s v) + (z_cn (s.2.2.2.2.2.1 v) s.1))), .int 0, .int 0, .int (((zTs s v)) + ((zStr s v))), .int (nI a9), .ref ri, .ref rj, .int (nI v), .int (s.2.1 v), .int (nI (z_cn (s.2.2.2.2.2.1 v) s.1)), .ref rs, .int (nI s.1), q_u, q_u, q_u, q_u, q_u, q_u, q_u, q_u, q_u, q_u, q_u, q_u, q_u, q_u, q_u] [.int (-25000)] _
  refine q_sipush (v := -25000) dL_law_382 rfl ?_
  refine q_icmp_ne 463 dL_law_385 (by decide) (fun b => absurd rfl b) (fun b => ?_)
  refine q_aload_n (by decide) dL_law_388 rfl ?_
  refine q_aload_n (by decide) dL_law_389 rfl ?_
  refine q_iload dL_law_390 rfl ?_
  obtain ⟨fo8, ho8⟩ := X7.obj
  refine q_invV (mc' := 25) (ms' := 6870) (d' := d - 1) (as := [.int (s.2.1 v)]) dL_law_392 kM_X10_formatArgument kL_L_190 kI_X10_formatArgument kS_X10_formatArgument rfl (kC_X10.1) ho8 rfl rfl (Nat.le_of_ble_eq_true rfl) (by omega) (by decide) (by omega) (by omega) (k_formatArgument (d := d - 1) X7 V (by omega) hv (by omega)) (fun v8 h8 hB => ?_) (fun E8 h8 hB => by
      obtain ⟨l9, f9, t9, e9, -⟩ := hB
      cases e9)
  obtain ⟨ln, fn, tn, e9, X8, z_8⟩ := hB
  injection e9 with e9
  subst e9
  have A_8 := A_7.zone z_8
  have B_8 := B_7.zone z_8
  have S_8 := S_7.zone z_8
  change q_W _ _ _ _ _ _ _ _ 395 [.ref 0, .ref 100, .int (nI t), .int (nI s.1), .int (nI (zAs s v + zCl s v s.1)), .int (nI ((zWs s v) + (z_cn (s.2.2.2.2.2.1 v) s.1))), .int 0, .int 0, .int (((zTs s v)) + ((zStr s v))), .int (nI a9), .ref ri, .ref rj, .int (nI v), .int (s.2.1 v), .int (nI (z_cn (s.2.2.2.2.2.1 v) s.1)), .ref rs, .int (nI s.1), q_u, q_u, q_u, q_u, q_u, q_u, q_u, q_u, q_u, q_u, q_u, q_u, q_u, q_u, q_u] [.int (nI ln), .ref 100] _
  have hs0_9 := X8.s0
  have lt_A_8_9 := A_8.lt
  have lt_B_8_9 := B_8.lt
  have hsl := S_8.lt
  refine t_new X8 dL_law_395 dL_law_398 dL_law_399 (by simp only [List.length_cons, List.length_nil]; omega) (by omega) (by omega) (by omega) (fun h9 b9 w9 X9 D_9 o_9 => ?_)
  have A_9 := A_8.on o_9 (by omega)
  have B_9 := B_8.on o_9 (by omega)
  have S_9 := S_8.on o_9 ⟨by omega, by omega⟩
  have le_9 := o_9.le
  change q_W _ _ _ _ _ _ _ _ 402 [.ref 0, .ref 100, .int (nI t), .int (nI s.1), .int (nI (zAs s v + zCl s v s.1)), .int (nI ((zWs s v) + (z_cn (s.2.2.2.2.2.1 v) s.1))), .int 0, .int 0, .int (((zTs s v)) + ((zStr s v))), .int (nI a9), .ref ri, .ref rj, .int (nI v), .int (s.2.1 v), .int (nI (z_cn (s.2.2.2.2.2.1 v) s.1)), .ref rs, .int (nI s.1), q_u, q_u, q_u, q_u, q_u, q_u, q_u, q_u, q_u, q_u, q_u, q_u, q_u, q_u, q_u] [.ref b9, .int (nI ln), .ref 100] _
  refine q_iload dL_law_402 rfl ?_
  refine t_appV X9 D_9 (by omega) (hix.imp fun m q => ⟨by omega, q.2⟩) (by simp only [List.length_append, List.length_cons, List.length_nil]; omega) dL_law_404 (by simp only [List.length_cons, List.length_nil]; omega) (by omega) (by omega) (by omega) (fun h10 w10 X10 D_10 o_10 => ?_)
  have A_10 := A_9.on o_10 (by omega)
  have B_10 := B_9.on o_10 (by omega)
  have S_10 := S_9.on o_10 ⟨by omega, by omega⟩
  have le_10 := o_10.le
  change q_W _ _ _ _ _ _ _ _ 407 [.ref 0, .ref 100, .int (nI t), .int (nI s.1), .int (nI (zAs s v + zCl s v s.1)), .int (nI ((zWs s v) + (z_cn (s.2.2.2.2.2.1 v) s.1))), .int 0, .int 0, .int (((zTs s v)) + ((zStr s v))), .int (nI a9), .ref ri, .ref rj, .int (nI v), .int (s.2.1 v), .int (nI (z_cn (s.2.2.2.2.2.1 v) s.1)), .ref rs, .int (nI s.1), q_u, q_u, q_u, q_u, q_u, q_u, q_u, q_u, q_u, q_u, q_u, q_u, q_u, q_u, q_u] [.ref b9, .int (nI ln), .ref 100] _
  have C11 : z_Tx h10 0 16 27 [40] := z_Tx.const X10 2 0 (by decide)
  refine q_ldcS (k := 2) (by decide) rfl rfl dL_law_407 ?_
  change q_W _ _ _ _ _ _ _ _ 409 [.ref 0, .ref 100, .int (nI t), .int (nI s.1), .int (nI (zAs s v + zCl s v s.1)), .int (nI ((zWs s v) + (z_cn (s.2.2.2.2.2.1 v) s.1))), .int 0, .int 0, .int (((zTs s v)) + ((zStr s v))), .int (nI a9), .ref ri, .ref rj, .int (nI v), .int (s.2.1 v), .int (nI (z_cn (s.2.2.2.2.2.1 v) s.1)), .ref rs, .int (nI s.1), q_u, q_u, q_u, q_u, q_u, q_u, q_u, q_u, q_u, q_u, q_u, q_u, q_u, q_u, q_u] [.ref 16, .ref b9, .int (nI ln), .ref 100] _
  refine t_appS X10 D_10 C11 ⟨by omega, by omega⟩ (by simp only [List.length_append, List.length_cons, List.length_nil]; omega) dL_law_409 (by simp only [List.length_cons, List.length_nil]; omega) (by omega) (by omega) (by omega) (fun h12 w12 X12 D_12 o_12 => ?_)
  have A_12 := A_10.on o_12 (by omega)
  have B_12 := B_10.on o_12 (by omega)
  have S_12 := S_10.on o_12 ⟨by omega, by omega⟩
  have le_12 := o_12.le
  change q_W _ _ _ _ _ _ _ _ 412 [.ref 0, .ref 100, .int (nI t), .int (nI s.1), .int (nI (zAs s v + zCl s v s.1)), .int (nI ((zWs s v) + (z_cn (s.2.2.2.2.2.1 v) s.1))), .int 0, .int 0, .int (((zTs s v)) + ((zStr s v))), .int (nI a9), .ref ri, .ref rj, .int (nI v), .int (s.2.1 v), .int (nI (z_cn (s.2.2.2.2.2.1 v) s.1)), .ref rs, .int (nI s.1), q_u, q_u, q_u, q_u, q_u, q_u, q_u, q_u, q_u, q_u, q_u, q_u, q_u, q_u, q_u] [.ref b9, .int (nI ln), .ref 100] _
  refine q_aload_n (by decide) dL_law_412 rfl ?_
  refine q_iload dL_law_413 rfl ?_
  obtain ⟨fo13, ho13⟩ := X12.obj
  refine q_invV (mc' := 1) (ms' := 6) (d' := d - 1) (as := [.int (s.2.1 v)]) dL_law_415 kM_X10_strengthOf kL_L_148 kI_X10_strengthOf kS_X10_strengthOf rfl (kC_X10.1) ho13 rfl rfl (Nat.le_of_ble_eq_true rfl) (by omega) (by decide) (by omega) (by omega) (k_strengthOf (d := d - 1) X12 V hv (by omega)) (q_kC (fun h13 hB => ?_)) q_xC
  obtain ⟨X13, z_13⟩ := hB
  have A_13 := A_12.zone z_13
  have B_13 := B_12.zone z_13
  have S_13 := S_12.zone z_13
  have D_13 := D_12.zone z_13
  have lz_13 := z_13.1
  change q_W _ _ _ _ _ _ _ _ 418 [.ref 0, .ref 100, .int (nI t), .int (nI s.1), .int (nI (zAs s v + zCl s v s.1)), .int (nI ((zWs s v) + (z_cn (s.2.2.2.2.2.1 v) s.1))), .int 0, .int 0, .int (((zTs s v)) + ((zStr s v))), .int (nI a9), .ref ri, .ref rj, .int (nI v), .int (s.2.1 v), .int (nI (z_cn (s.2.2.2.2.2.1 v) s.1)), .ref rs, .int (nI s.1), q_u, q_u, q_u, q_u, q_u, q_u, q_u, q_u, q_u, q_u, q_u, q_u, q_u, q_u, q_u] [.int (zStr s v), .ref b9, .int (nI ln), .ref 100] _
  refine t_appV X13 D_13 (by omega) (hsx.imp fun m q => ⟨by omega, q.2⟩) (by simp only [List.length_append, List.length_cons, List.length_nil]; omega) dL_law_418 (by simp only [List.length_cons, List.length_nil]; omega) (by omega) (by omega) (by omega) (fun h14 w14 X14 D_14 o_14 => ?_)
  have A_14 := A_13.on o_14 (by omega)
  have B_14 := B_13.on o_14 (by omega)
  have S_14 := S_13.on o_14 ⟨by omega, by omega⟩
  have le_14 := o_14.le
  change q_W _ _ _ _ _ _ _ _ 421 [.ref 0, .ref 100, .int (nI t), .int (nI s.1), .int (nI (zAs s v + zCl s v s.1)), .int (nI ((zWs s v) + (z_cn (s.2.2.2.2.2.1 v) s.1))), .int 0, .int 0, .int (((zTs s v)) + ((zStr s v))), .int (nI a9), .ref ri, .ref rj, .int (nI v), .int (s.2.1 v), .int (nI (z_cn (s.2.2.2.2.2.1 v) s.1)), .ref rs, .int (nI s.1), q_u, q_u, q_u, q_u, q_u, q_u, q_u, q_u, q_u, q_u, q_u, q_u, q_u, q_u, q_u] [.ref b9, .int (nI ln), .ref 100] _
  have C15 : z_Tx h14 0 17 28 [47] := z_Tx.const X14 3 0 (by decide)
  refine q_ldcS (k := 3) (by decide) rfl rfl dL_law_421 ?_
  change q_W _ _ _ _ _ _ _ _ 423 [.ref 0, .ref 100, .int (nI t), .int (nI s.1), .int (nI (zAs s v + zCl s v s.1)), .int (nI ((zWs s v) + (z_cn (s.2.2.2.2.2.1 v) s.1))), .int 0, .int 0, .int (((zTs s v)) + ((zStr s v))), .int (nI a9), .ref ri, .ref rj, .int (nI v), .int (s.2.1 v), .int (nI (z_cn (s.2.2.2.2.2.1 v) s.1)), .ref rs, .int (nI s.1), q_u, q_u, q_u, q_u, q_u, q_u, q_u, q_u, q_u, q_u, q_u, q_u, q_u, q_u, q_u] [.ref 17, .ref b9, .int (nI ln), .ref 100] _
  refine t_appS X14 D_14 C15 ⟨by omega, by omega⟩ (by simp only [List.length_append, List.length_cons, List.length_nil]; omega) dL_law_423 (by simp only [List.length_cons, List.length_nil]; omega) (by omega) (by omega) (by omega) (fun h16 w16 X16 D_16 o_16 => ?_)
  have A_16 := A_14.on o_16 (by omega)
  have B_16 := B_14.on o_16 (by omega)
  have S_16 := S_14.on o_16 ⟨by omega, by omega⟩
  have le_16 := o_16.le
  change q_W _ _ _ _ _ _ _ _ 426 [.ref 0, .ref 100, .int (nI t), .int (nI s.1), .int (nI (zAs s v + zCl s v s.1)), .int (nI ((zWs s v) + (z_cn (s.2.2.2.2.2.1 v) s.1))), .int 0, .int 0, .int (((zTs s v)) + ((zStr s v))), .int (nI a9), .ref ri, .ref rj, .int (nI v), .int (s.2.1 v), .int (nI (z_cn (s.2.2.2.2.2.1 v) s.1)), .ref rs, .int (nI s.1), q_u, q_u, q_u, q_u, q_u, q_u, q_u, q_u, q_u, q_u, q_u, q_u, q_u, q_u, q_u] [.ref b9, .int (nI ln), .ref 100] _
  refine q_aload_n (by decide) dL_law_426 rfl ?_
  refine q_iload dL_law_427 rfl ?_
  obtain ⟨fo17, ho17⟩ := X16.obj
  refine q_invV (mc' := 1) (ms' := 6) (d' := d - 1) (as := [.int (s.2.1 v)]) dL_law_429 kM_X10_weightOf kL_L_151 kI_X10_weightOf kS_X10_weightOf rfl (kC_X10.1) ho17 rfl rfl (Nat.le_of_ble_eq_true rfl) (by omega) (by decide) (by omega) (by omega) (k_weightOf (d := d - 1) X16 V hv (by omega)) (q_kC (fun h17 hB => ?_)) q_xC
  obtain ⟨X17, z_17⟩ := hB
  have A_17 := A_16.zone z_17
  have B_17 := B_16.zone z_17
  have S_17 := S_16.zone z_17
  have D_17 := D_16.zone z_17
  have lz_17 := z_17.1
  change q_W _ _ _ _ _ _ _ _ 432 [.ref 0, .ref 100, .int (nI t), .int (nI s.1), .int (nI (zAs s v + zCl s v s.1)), .int (nI ((zWs s v) + (z_cn (s.2.2.2.2.2.1 v) s.1))), .int 0, .int 0, .int (((zTs s v)) + ((zStr s v))), .int (nI a9), .ref ri, .ref rj, .int (nI v), .int (s.2.1 v), .int (nI (z_cn (s.2.2.2.2.2.1 v) s.1)), .ref rs, .int (nI s.1), q_u, q_u, q_u, q_u, q_u, q_u, q_u, q_u, q_u, q_u, q_u, q_u, q_u, q_u, q_u] [.int (s.2.2.1 v), .ref b9, .int (nI ln), .ref 100] _
  refine t_appV X17 D_17 (by omega) (hwx.imp fun m q => ⟨by omega, q.2⟩) (by simp only [List.length_append, List.length_cons, List.length_nil]; omega) dL_law_432 (by simp only [List.length_cons, List.length_nil]; omega) (by omega) (by omega) (by omega) (fun h18 w18 X18 D_18 o_18 => ?_)
  have A_18 := A_17.on o_18 (by omega)
  have B_18 := B_17.on o_18 (by omega)
  have S_18 := S_17.on o_18 ⟨by omega, by omega⟩
  have le_18 := o_18.le
  change q_W _ _ _ _ _ _ _ _ 435 [.ref 0, .ref 100, .int (nI t), .int (nI s.1), .int (nI (zAs s v + zCl s v s.1)), .int (nI ((zWs s v) + (z_cn (s.2.2.2.2.2.1 v) s.1))), .int 0, .int 0, .int (((zTs s v)) + ((zStr s v))), .int (nI a9), .ref ri, .ref rj, .int (nI v), .int (s.2.1 v), .int (nI (z_cn (s.2.2.2.2.2.1 v) s.1)), .ref rs, .int (nI s.1), q_u, q_u, q_u, q_u, q_u, q_u, q_u, q_u, q_u, q_u, q_u, q_u, q_u, q_u, q_u] [.ref b9, .int (nI ln), .ref 100] _
  have C19 : z_Tx h18 0 18 29 [41] := z_Tx.const X18 4 0 (by decide)
  refine q_ldcS (k := 4) (by decide) rfl rfl dL_law_435 ?_
  change q_W _ _ _ _ _ _ _ _ 437 [.ref 0, .ref 100, .int (nI t), .int (nI s.1), .int (nI (zAs s v + zCl s v s.1)), .int (nI ((zWs s v) + (z_cn (s.2.2.2.2.2.1 v) s.1))), .int 0, .int 0, .int (((zTs s v)) + ((zStr s v))), .int (nI a9), .ref ri, .ref rj, .int (nI v), .int (s.2.1 v), .int (nI (z_cn (s.2.2.2.2.2.1 v) s.1)), .ref rs, .int (nI s.1), q_u, q_u, q_u, q_u, q_u, q_u, q_u, q_u, q_u, q_u, q_u, q_u, q_u, q_u, q_u] [.ref 18, .ref b9, .int (nI ln), .ref 100] _
  refine t_appS X18 D_18 C19 ⟨by omega, by omega⟩ (by simp only [List.length_append, List.length_cons, List.length_nil]; omega) dL_law_437 (by simp only [List.length_cons, List.length_nil]; omega) (by omega) (by omega) (by omega) (fun h20 w20 X20 D_20 o_20 => ?_)
  have A_20 := A_18.on o_20 (by omega)
  have B_20 := B_18.on o_20 (by omega)
  have S_20 := S_18.on o_20 ⟨by omega, by omega⟩
  have le_20 := o_20.le
  change q_W _ _ _ _ _ _ _ _ 440 [.ref 0, .ref 100, .int (nI t), .int (nI s.1), .int (nI (zAs s v + zCl s v s.1)), .int (nI ((zWs s v) + (z_cn (s.2.2.2.2.2.1 v) s.1))), .int 0, .int 0, .int (((zTs s v)) + ((zStr s v))), .int (nI a9), .ref ri, .ref rj, .int (nI v), .int (s.2.1 v), .int (nI (z_cn (s.2.2.2.2.2.1 v) s.1)), .ref rs, .int (nI s.1), q_u, q_u, q_u, q_u, q_u, q_u, q_u, q_u, q_u, q_u, q_u, q_u, q_u, q_u, q_u] [.ref b9, .int (nI ln), .ref 100] _
  refine q_aload_n (by decide) dL_law_440 rfl ?_
  refine q_iload dL_law_441 rfl ?_
  obtain ⟨fo21, ho21⟩ := X20.obj
  refine q_invV (mc' := 1) (ms' := 6) (d' := d - 1) (as := [.int (s.2.1 v)]) dL_law_443 kM_X10_status kL_L_199 kI_X10_status kS_X10_status rfl (kC_X10.1) ho21 rfl rfl (Nat.le_of_ble_eq_true rfl) (by omega) (by decide) (by omega) (by omega) (k_status (d := d - 1) X20 V hv (by omega)) (q_kC (fun h21 hB => ?_)) q_xC
  obtain ⟨X21, z_21⟩ := hB
  have A_21 := A_20.zone z_21
  have B_21 := B_20.zone z_21
  have S_21 := S_20.zone z_21
  have D_21 := D_20.zone z_21
  have lz_21 := z_21.1
  change q_W _ _ _ _ _ _ _ _ 446 [.ref 0, .ref 100, .int (nI t), .int (nI s.1), .int (nI (zAs s v + zCl s v s.1)), .int (nI ((zWs s v) + (z_cn (s.2.2.2.2.2.1 v) s.1))), .int 0, .int 0, .int (((zTs s v)) + ((zStr s v))), .int (nI a9), .ref ri, .ref rj, .int (nI v), .int (s.2.1 v), .int (nI (z_cn (s.2.2.2.2.2.1 v) s.1)), .ref rs, .int (nI s.1), q_u, q_u, q_u, q_u, q_u, q_u, q_u, q_u, q_u, q_u, q_u, q_u, q_u, q_u, q_u] [.int (zLt s v), .ref b9, .int (nI ln), .ref 100] _
  refine t_appC X21 D_21 (by omega) (z_letter_lat _ _ _) (by simp only [List.length_append, List.length_cons, List.length_nil]; omega) dL_law_446 (by simp only [List.length_cons, List.length_nil]; omega) (by omega) (by omega) (by omega) (fun h22 w22 X22 D_22 o_22 => ?_)
  have A_22 := A_21.on o_22 (by omega)
  have B_22 := B_21.on o_22 (by omega)
  have S_22 := S_21.on o_22 ⟨by omega, by omega⟩
  have le_22 := o_22.le
  change q_W _ _ _ _ _ _ _ _ 449 [.ref 0, .ref 100, .int (nI t), .int (nI s.1), .int (nI (zAs s v + zCl s v s.1)), .int (nI ((zWs s v) + (z_cn (s.2.2.2.2.2.1 v) s.1))), .int 0, .int 0, .int (((zTs s v)) + ((zStr s v))), .int (nI a9), .ref ri, .ref rj, .int (nI v), .int (s.2.1 v), .int (nI (z_cn (s.2.2.2.2.2.1 v) s.1)), .ref rs, .int (nI s.1), q_u, q_u, q_u, q_u, q_u, q_u, q_u, q_u, q_u, q_u, q_u, q_u, q_u, q_u, q_u] [.ref b9, .int (nI ln), .ref 100] _
  refine q_aloadS S_22.lo dL_law_449 rfl ?_
  refine t_appS X22 D_22 S_22 hsl (by simp only [List.length_append, List.length_cons, List.length_nil]; omega) dL_law_451 (by simp only [List.length_cons, List.length_nil]; omega) (by omega) (by omega) (by omega) (fun h23 w23 X23 D_23 o_23 => ?_)
  have A_23 := A_22.on o_23 (by omega)
  have B_23 := B_22.on o_23 (by omega)
  have S_23 := S_22.on o_23 ⟨by omega, by omega⟩
  have le_23 := o_23.le
  change q_W _ _ _ _ _ _ _ _ 454 [.ref 0, .ref 100, .int (nI t), .int (nI s.1), .int (nI (zAs s v + zCl s v s.1)), .int (nI ((zWs s v) + (z_cn (s.2.2.2.2.2.1 v) s.1))), .int 0, .int 0, .int (((zTs s v)) + ((zStr s v))), .int (nI a9), .ref ri, .ref rj, .int (nI v), .int (s.2.1 v), .int (nI (z_cn (s.2.2.2.2.2.1 v) s.1)), .ref rs, .int (nI s.1), q_u, q_u, q_u, q_u, q_u, q_u, q_u, q_u, q_u, q_u, q_u, q_u, q_u, q_u, q_u] [.ref b9, .int (nI ln), .ref 100] _
  refine t_str X23 D_23 (by omega) (by simp only [List.length_append, List.length_cons, List.length_nil]; omega) dL_law_454 (by simp only [List.length_cons, List.length_nil]; omega) (by omega) (by omega) (by omega) (fun h24 r24 v24 X24 Z_24 o_24 => ?_)
  have A_24 := A_23.on o_24 (by omega)
  have B_24 := B_23.on o_24 (by omega)
  have S_24 := S_23.on o_24 ⟨by omega, by omega⟩
  have le_24 := o_24.le
  change q_W _ _ _ _ _ _ _ _ 457 [.ref 0, .ref 100, .int (nI t), .int (nI s.1), .int (nI (zAs s v + zCl s v s.1)), .int (nI ((zWs s v) + (z_cn (s.2.2.2.2.2.1 v) s.1))), .int 0, .int 0, .int (((zTs s v)) + ((zStr s v))), .int (nI a9), .ref ri, .ref rj, .int (nI v), .int (s.2.1 v), .int (nI (z_cn (s.2.2.2.2.2.1 v) s.1)), .ref rs, .int (nI s.1), q_u, q_u, q_u, q_u, q_u, q_u, q_u, q_u, q_u, q_u, q_u, q_u, q_u, q_u, q_u] [.ref r24, .int (nI ln), .ref 100] _
  obtain ⟨nz, fz, Sz, tz, -⟩ := Z_24
  refine q_invS (mc' := 142) (ms' := 852) (d' := d - 1) (as := [.ref 100, .int (nI ln), .ref r24]) dL_law_457 kM_L_isLine kL_L_205 kT_L_isLine rfl rfl rfl (Nat.le_of_ble_eq_true rfl) (by omega) (by decide) (by omega) (by omega) (e_isLine (d := d - 1) X24 Sz tn (by exact tz) (by omega)) (q_kC (fun h25 hB => ?_)) q_xC
  obtain ⟨X25, z_25⟩ := hB
  have A_25 := A_24.zone z_25
  have B_25 := B_24.zone z_25
  have S_25 := S_24.zone z_25
  change q_W _ _ _ _ _ _ _ _ 460 [.ref 0, .ref 100, .int (nI t), .int (nI s.1), .int (nI (zAs s v + zCl s v s.1)), .int (nI ((zWs s v) + (z_cn (s.2.2.2.2.2.1 v) s.1))), .int 0, .int 0, .int (((zTs s v)) + ((zStr s v))), .int (nI a9), .ref ri, .ref rj, .int (nI v), .int (s.2.1 v), .int (nI (z_cn (s.2.2.2.2.2.1 v) s.1)), .ref rs, .int (nI s.1), q_u, q_u, q_u, q_u, q_u, q_u, q_u, q_u, q_u, q_u, q_u, q_u, q_u, q_u, q_u] [.int 1] _
  refine q_if_ne 465 dL_law_460 (by decide) (fun b => ?_) (fun b => absurd b (by decide))
  refine q_forget 13 ?_
  refine q_forget 14 ?_
  refine q_forget 15 ?_
  refine q_forget 16 ?_
  change q_W _ _ _ _ _ _ _ _ 465 [.ref 0, .ref 100, .int (nI t), .int (nI s.1), .int (nI (zAs s (v + 1))), .int (nI (zWs s (v + 1))), .int 0, .int 0, .int (zTs s (v + 1)), .int (nI a9), .ref ri, .ref rj, .int (nI v), q_u, q_u, q_u, q_u, q_u, q_u, q_u, q_u, q_u, q_u, q_u, q_u, q_u, q_u, q_u, q_u, q_u, q_u, q_u] [] _
  exact K _ _ h25 _ _ X25 A_25 (B_25.eq (fun i _ => zBy_end V hv i)) (by omega) (by omega)
set_option maxRecDepth 100000 in
set_option maxHeartbeats 8000000 in
theorem l_args {t a9 ri rj KC KS : Nat} (V : z_V B s) (hB : B ≤ 1000) (ho : q_isold g 0) (hIJ : ri < rj) (hd : 30 ≤ d) (hKC : KC ≤ mc) (hKS : KS ≤ ms)
    (K : ∀ kc ks h lc fl, z_X h s lc fl → z_arr 0 h ri s.1 s.2.1 → z_arr 0 h rj s.1 s.2.2.2.2.2.1 → kc ≤ KC → ks ≤ KS → q_W g mL_law d mc ms Q kc ks 471 [.ref 0, .ref 100, .int (nI t), .int (nI s.1), .int (nI (zAs s s.1)), .int (nI (zWs s s.1)), .int 0, .int 0, .int (zTs s s.1), .int (nI a9), .ref ri, .ref rj, .int (nI s.1), q_u, q_u, q_u, q_u, q_u, q_u, q_u, q_u, q_u, q_u, q_u, q_u, q_u, q_u, q_u, q_u, q_u, q_u, q_u] [] h) :
    ∀ r v kc ks h lc fl, v + r = s.1 → z_X h s lc fl → z_arr 0 h ri s.1 s.2.1 → z_arr 0 h rj s.1 (zBy s v 0) → kc + 500 * r ≤ KC → ks + 40000 * r ≤ KS → q_W g mL_law d mc ms Q kc ks 85 [.ref 0, .ref 100, .int (nI t), .int (nI s.1), .int (nI (zAs s v)), .int (nI (zWs s v)), .int 0, .int 0, .int (zTs s v), .int (nI a9), .ref ri, .ref rj, .int (nI v), q_u, q_u, q_u, q_u, q_u, q_u, q_u, q_u, q_u, q_u, q_u, q_u, q_u, q_u, q_u, q_u, q_u, q_u, q_u] [] h := by
  have h8 := V.1.1
  intro r
  induction r with
  | zero =>
    intro v kc ks h lc fl hr X A B hkc hks
    have e : v = s.1 := by omega
    subst e
    refine q_iload dL_law_85 rfl ?_
    refine q_iload_n dL_law_87 rfl ?_
    refine q_icmp_ge 471 dL_law_88 (by decide) (fun b => ?_) (fun b => absurd ((nI_leI (by omega) (by omega)).mpr (by omega)) b)
    exact K _ _ h _ _ X A (B.eq (fun i hi => zBy_all V i hi)) (by omega) (by omega)
  | succ r ih =>
    intro v kc ks h lc fl hr X A B hkc hks
    have hv : v < s.1 := by omega
    refine q_iload dL_law_85 rfl ?_
    refine q_iload_n dL_law_87 rfl ?_
    refine q_icmp_ge 471 dL_law_88 (by decide) (fun b => absurd ((nI_leI (by omega) (by omega)).mp b) (by omega)) (fun b => ?_)
    refine q_aload A.r0 dL_law_91 rfl ?_
    refine q_iload dL_law_93 rfl ?_
    refine a_ld A dL_law_95 (by omega) (by omega) ?_
    change q_W _ _ _ _ _ _ _ _ 96 [.ref 0, .ref 100, .int (nI t), .int (nI s.1), .int (nI (zAs s v)), .int (nI (zWs s v)), .int 0, .int 0, .int (zTs s v), .int (nI a9), .ref ri, .ref rj, .int (nI v), q_u, q_u, q_u, q_u, q_u, q_u, q_u, q_u, q_u, q_u, q_u, q_u, q_u, q_u, q_u, q_u, q_u, q_u, q_u] [.int (s.2.1 v)] _
    refine q_istore dL_law_96 (by decide) rfl ?_
    change q_W _ _ _ _ _ _ _ _ 98 [.ref 0, .ref 100, .int (nI t), .int (nI s.1), .int (nI (zAs s v)), .int (nI (zWs s v)), .int 0, .int 0, .int (zTs s v), .int (nI a9), .ref ri, .ref rj, .int (nI v), .int (s.2.1 v), q_u, q_u, q_u, q_u, q_u, q_u, q_u, q_u, q_u, q_u, q_u, q_u, q_u, q_u, q_u, q_u, q_u, q_u] [] _
    refine q_iconst (v := 0) dL_law_98 rfl ?_
    refine q_istore dL_law_99 (by decide) rfl ?_
    change q_W _ _ _ _ _ _ _ _ 101 [.ref 0, .ref 100, .int (nI t), .int (nI s.1), .int (nI (zAs s v)), .int (nI (zWs s v)), .int 0, .int 0, .int (zTs s v), .int (nI a9), .ref ri, .ref rj, .int (nI v), .int (s.2.1 v), .int 0, q_u, q_u, q_u, q_u, q_u, q_u, q_u, q_u, q_u, q_u, q_u, q_u, q_u, q_u, q_u, q_u, q_u] [] _
    refine q_iload dL_law_101 rfl ?_
    refine q_if_le 118 dL_law_103 (by decide) (fun b => ?_) (fun b => ?_)
    · refine l_arg (t := t) (a9 := a9) (v := v) (ri := ri) (rj := rj) (KC := KC - 500 * r) (KS := KS - 40000 * r) V hB hv ho hIJ hd (by omega) (by omega) (fun kc ks h lc fl X A B hkc hks => ?_) _ _ h lc fl X A B (by omega) (by omega)
      refine q_iinc (x := nI v) (v := nI (v + 1)) dL_law_465 rfl (nI_add _ 1) rfl ?_
      change q_W _ _ _ _ _ _ _ _ 468 [.ref 0, .ref 100, .int (nI t), .int (nI s.1), .int (nI (zAs s (v + 1))), .int (nI (zWs s (v + 1))), .int 0, .int 0, .int (zTs s (v + 1)), .int (nI a9), .ref ri, .ref rj, .int (nI (v + 1)), q_u, q_u, q_u, q_u, q_u, q_u, q_u, q_u, q_u, q_u, q_u, q_u, q_u, q_u, q_u, q_u, q_u, q_u, q_u] [] _
      refine q_goto 85 dL_law_468 (by decide) ?_
      exact ih (v + 1) _ _ h lc fl (by omega) X A B (by omega) (by omega)
    · have hv1 : 1 ≤ v := by
          refine Nat.le_of_not_lt (fun c => b ?_)
          have e : v = 0 := by omega
          rw [e]
          decide
      refine q_iload dL_law_106 rfl ?_
      refine q_aload A.r0 dL_law_108 rfl ?_
      refine q_iload dL_law_110 rfl ?_
      refine q_iconst (v := 1) dL_law_112 rfl ?_
      refine q_isubN (a := v) (b := 1) (by omega) dL_law_113 ?_
      refine a_ld A dL_law_114 (by omega) (by omega) ?_
      change q_W _ _ _ _ _ _ _ _ 115 [.ref 0, .ref 100, .int (nI t), .int (nI s.1), .int (nI (zAs s v)), .int (nI (zWs s v)), .int 0, .int 0, .int (zTs s v), .int (nI a9), .ref ri, .ref rj, .int (nI v), .int (s.2.1 v), .int 0, q_u, q_u, q_u, q_u, q_u, q_u, q_u, q_u, q_u, q_u, q_u, q_u, q_u, q_u, q_u, q_u, q_u] [.int (s.2.1 (v - 1)), .int (s.2.1 v)] _
      refine q_icmp_le 158 dL_law_115 (by decide) (fun b => by
          obtain ⟨ma, mb, q1, q2, q3, q4⟩ := V.2 (v - 1) v (by omega) hv
          rw [q2, q3] at b
          have := (nI_leI (by omega) (by omega)).mp b
          omega) (fun b => ?_)
      refine l_arg (t := t) (a9 := a9) (v := v) (ri := ri) (rj := rj) (KC := KC - 500 * r) (KS := KS - 40000 * r) V hB hv ho hIJ hd (by omega) (by omega) (fun kc ks h lc fl X A B hkc hks => ?_) _ _ h lc fl X A B (by omega) (by omega)
      refine q_iinc (x := nI v) (v := nI (v + 1)) dL_law_465 rfl (nI_add _ 1) rfl ?_
      change q_W _ _ _ _ _ _ _ _ 468 [.ref 0, .ref 100, .int (nI t), .int (nI s.1), .int (nI (zAs s (v + 1))), .int (nI (zWs s (v + 1))), .int 0, .int 0, .int (zTs s (v + 1)), .int (nI a9), .ref ri, .ref rj, .int (nI (v + 1)), q_u, q_u, q_u, q_u, q_u, q_u, q_u, q_u, q_u, q_u, q_u, q_u, q_u, q_u, q_u, q_u, q_u, q_u, q_u] [] _
      refine q_goto 85 dL_law_468 (by decide) ?_
      exact ih (v + 1) _ _ h lc fl (by omega) X A B (by omega) (by omega)
end LARG
