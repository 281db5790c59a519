/-! the law's turn: the end; three turns; the law -/
section FINAL
variable {g : q_G} {d mc ms : Nat} {Q : q_O → q_H → Prop} {s : ZS} {B : Nat}
theorem g_bcS {n : Nat} {x : Int32} (hn : n ≤ 8) (h : z_sub n 0 x) : z_bc x = nI (z_cn x n) := by
  obtain ⟨m, hm, e⟩ := z_sub8 hn h
  rw [z_szbc hn h, e, z_szcn m hm, ← e, z_cnTop (n := n) (fun j hj q => (h j hj q).1) 8 hn (by omega)]
theorem g_und (V : z_V B s) : nI s.1 - z_bc (zAc s ||| zRj s) = nI (s.1 - z_cn (zAc s ||| zRj s) s.1) := by
  have h8 := V.1.1
  rw [g_bcS h8 (g_sub V)]
  exact pk_sub (z_cn_le _ _)
theorem r_le01 {kc ks pc : Nat} {ls stk : List Value} {h : q_H} {x : Int32} (d0 : decode mL_law.2.1 pc = .ok (.ifCond .le 7, 3)) (d1 : decode mL_law.2.1 (pc + 3) = .ok (.iconst 1, 1)) (d2 : decode mL_law.2.1 (pc + 4) = .ok (.goto 4, 3)) (d3 : decode mL_law.2.1 (pc + 7) = .ok (.iconst 0, 1))
    (kk : q_W g mL_law d mc ms Q kc ks (pc + 8) ls (.int (if x ≤ 0 then 0 else 1) :: stk) h) : q_W g mL_law d mc ms Q kc ks pc ls (.int x :: stk) h := by
  refine q_if_le (pc + 7) d0 (by omega) (fun b => ?_) (fun b => ?_)
  · refine q_iconst (v := 0) d3 rfl ?_
    rw [if_pos b] at kk
    exact kk
  · refine q_iconst (v := 1) d1 rfl ?_
    refine q_goto (pc + 8) d2 (by omega) ?_
    rw [if_neg b] at kk
    exact kk
theorem g_held {n : Nat} (h : n < 2 ^ 31) : z_b (x_am_isDialogueHeld n) = if nI n ≤ 0 then 0 else 1 := by
  unfold x_am_isDialogueHeld x_dl_isHeld
  have e : nI n ≤ 0 ↔ n ≤ 0 := nI_leI (b := 0) h (by omega)
  by_cases c : n ≤ 0
  · rw [if_pos c, if_pos (e.mpr c)]; rfl
  · rw [if_neg c, if_neg (fun q => c (e.mp q))]; rfl
theorem g_stab (V : z_V B s) : x_ex_countStable s.1 s.2.2.2.2.2.1 = x_mo_stableCount_9 (zAl s) s.1 (2 ^ s.1) 0 0 := z_stabs V.1.1 (g_att V)
theorem g_stabL (V : z_V B s) : x_ex_countStableByLabels s.1 s.2.2.2.2.2.1 = x_mo_stableCount_9 (zAl s) s.1 (2 ^ s.1) 0 0 := z_stlab V.1.1 (g_att V)
theorem g_great (s : ZS) : x_ex_sizeOfGreatestAdmissible s.1 s.2.2.2.2.2.1 = x_ex_sizeOfGreatestAdmissible_10 s.1 s.2.2.2.2.2.1 (2 ^ s.1) 0 0 := by
  have hp : 0 < 2 ^ s.1 := Nat.two_pow_pos _
  unfold x_ex_sizeOfGreatestAdmissible
  rw [show 2 ^ s.1 - 1 + 1 = 2 ^ s.1 by omega]
theorem g_cyc2 (V : z_V B s) : x_cy_remain s.1 s.2.2.2.2.2.1 = x_cy_areFound s.1 s.2.2.2.2.2.1 := by
  obtain ⟨a, b⟩ := z_cyc V.1.1 (g_att V) (z_attS V.1)
  rw [a, b]
set_option maxRecDepth 100000 in
set_option maxHeartbeats 8000000 in
theorem l_fin {t ri rj rg m1 m2 KC KS lc : Nat} {fl : Nat → Int32} (V : z_V B s) (hB : B ≤ 1000) (hn : 4 ≤ s.1 ∧ s.1 ≤ 7) (ho : q_isold g 0) (hN : g.2.2.2.2.2.1 < 2 ^ 31) (ht : t < 100) (hm1 : m1 < s.1) (hm2 : m2 < s.1) (hd : 30 ≤ d) (hKC : KC ≤ mc) (hKS : KS ≤ ms)
    (K : ∀ kc ks h s2 lc fl, z_X h s2 lc fl → z_V (B + 8) s2 → 4 ≤ s2.1 → s2.1 ≤ 7 → kc ≤ KC → ks ≤ KS → q_W g mL_law d mc ms Q kc ks 1587 [.ref 0, .ref 100, .int (nI t), q_u, q_u, q_u, q_u, q_u, q_u, q_u, q_u, q_u, q_u, q_u, q_u, q_u, q_u, q_u, q_u, q_u, q_u, q_u, q_u, q_u, q_u, q_u, q_u, q_u, q_u, q_u, q_u, q_u] [] h) : ∀ kc ks h, z_X h s lc fl → z_arr 0 h ri s.1 s.2.1 → kc + 200 ≤ KC → ks + 1000 ≤ KS → q_W g mL_law d mc ms Q kc ks 1379 [.ref 0, .ref 100, .int (nI t), .int (nI s.1), .int (nI (zAs s s.1)), .int (nI (zWs s s.1)), .int (nI (z_cn (zAc s) s.1)), .int (nI (s.1 - z_cn (zAc s ||| zRj s) s.1)), .int (zTs s s.1), .int (nI s.2.2.2.2.2.2.2.2.1), .ref ri, .ref rj, .int (zAc s), .int (zRj s), .int (x_mo_stableCount_9 (zAl s) s.1 (2 ^ s.1) 0 0), .int (nI (z_cnt (zPb s) (2 ^ s.1))), .int (x_ex_sizeOfGreatestAdmissible_10 s.1 s.2.2.2.2.2.1 (2 ^ s.1) 0 0), .int (zCd s (2 ^ s.1)), .int (zCt s (2 ^ s.1)), .ref rg, .int (nI m1), .int (nI m2), .int (z_b (zTg s m1 m2 (2 ^ s.1))), q_u, q_u, q_u, q_u, q_u, q_u, q_u, q_u, q_u] [] h := by
  intro kc ks h X A hkc hks
  have h8 := V.1.1
  have h12 := V.1.2.1
  have h0 : s.1 ≠ 0 := by omega
  have hac := g_bcS h8 (z_subL (g_sub V))
  have hcl := z_cn_le (zAc s) s.1
  obtain ⟨tn, t1, et⟩ := g_tsN V
  refine q_aload_n (by decide) dL_law_1379 rfl ?_
  obtain ⟨fo1, ho1⟩ := X.obj
  refine q_invV (mc' := 0) (ms' := 0) (d' := d - 1) (as := []) dL_law_1380 kM_X10_attackCount kL_L_238 kI_X10_attackCount kS_X10_attackCount rfl (kC_X10.1) ho1 rfl rfl (Nat.le_of_ble_eq_true rfl) (by omega) (by decide) (by omega) (by omega) (k_attackCount (d := d - 1) X V (by omega)) (q_kC (fun h1 hB => ?_)) q_xC
  obtain ⟨X1, z_1⟩ := hB
  have A_1 := A.zone z_1
  change q_W _ _ _ _ _ _ _ _ 1383 [.ref 0, .ref 100, .int (nI t), .int (nI s.1), .int (nI (zAs s s.1)), .int (nI (zWs s s.1)), .int (nI (z_cn (zAc s) s.1)), .int (nI (s.1 - z_cn (zAc s ||| zRj s) s.1)), .int (zTs s s.1), .int (nI s.2.2.2.2.2.2.2.2.1), .ref ri, .ref rj, .int (zAc s), .int (zRj s), .int (x_mo_stableCount_9 (zAl s) s.1 (2 ^ s.1) 0 0), .int (nI (z_cnt (zPb s) (2 ^ s.1))), .int (x_ex_sizeOfGreatestAdmissible_10 s.1 s.2.2.2.2.2.1 (2 ^ s.1) 0 0), .int (zCd s (2 ^ s.1)), .int (zCt s (2 ^ s.1)), .ref rg, .int (nI m1), .int (nI m2), .int (z_b (zTg s m1 m2 (2 ^ s.1))), q_u, q_u, q_u, q_u, q_u, q_u, q_u, q_u, q_u] [.int (x_st_countAttacks s.1 s.2.2.2.2.1)] _
  refine q_iload dL_law_1383 rfl ?_
  refine q_icmp_ne 1574 dL_law_1385 (by decide) (fun b => absurd (u_atk V) b) (fun b => ?_)
  refine q_aload_n (by decide) dL_law_1388 rfl ?_
  obtain ⟨fo2, ho2⟩ := X1.obj
  refine q_invV (mc' := 0) (ms' := 0) (d' := d - 1) (as := []) dL_law_1389 kM_X10_successfulCount kL_L_241 kI_X10_successfulCount kS_X10_successfulCount rfl (kC_X10.1) ho2 rfl rfl (Nat.le_of_ble_eq_true rfl) (by omega) (by decide) (by omega) (by omega) (k_successfulCount (d := d - 1) X1 V (by omega)) (q_kC (fun h2 hB => ?_)) q_xC
  obtain ⟨X2, z_2⟩ := hB
  have A_2 := A_1.zone z_2
  change q_W _ _ _ _ _ _ _ _ 1392 [.ref 0, .ref 100, .int (nI t), .int (nI s.1), .int (nI (zAs s s.1)), .int (nI (zWs s s.1)), .int (nI (z_cn (zAc s) s.1)), .int (nI (s.1 - z_cn (zAc s ||| zRj s) s.1)), .int (zTs s s.1), .int (nI s.2.2.2.2.2.2.2.2.1), .ref ri, .ref rj, .int (zAc s), .int (zRj s), .int (x_mo_stableCount_9 (zAl s) s.1 (2 ^ s.1) 0 0), .int (nI (z_cnt (zPb s) (2 ^ s.1))), .int (x_ex_sizeOfGreatestAdmissible_10 s.1 s.2.2.2.2.2.1 (2 ^ s.1) 0 0), .int (zCd s (2 ^ s.1)), .int (zCt s (2 ^ s.1)), .ref rg, .int (nI m1), .int (nI m2), .int (z_b (zTg s m1 m2 (2 ^ s.1))), q_u, q_u, q_u, q_u, q_u, q_u, q_u, q_u, q_u] [.int (x_am_successfulCount s.1 s.2.2.2.2.2.1)] _
  refine q_iload dL_law_1392 rfl ?_
  refine q_icmp_ne 1574 dL_law_1394 (by decide) (fun b => absurd (u_sc V) b) (fun b => ?_)
  refine q_aload_n (by decide) dL_law_1397 rfl ?_
  obtain ⟨fo3, ho3⟩ := X2.obj
  refine q_invV (mc' := 0) (ms' := 0) (d' := d - 1) (as := []) dL_law_1398 kM_X10_acceptedCount kL_L_244 kI_X10_acceptedCount kS_X10_acceptedCount rfl (kC_X10.1) ho3 rfl rfl (Nat.le_of_ble_eq_true rfl) (by omega) (by decide) (by omega) (by omega) (k_acceptedCount (d := d - 1) X2 V (by omega)) (q_kC (fun h3 hB => ?_)) q_xC
  obtain ⟨X3, z_3⟩ := hB
  have A_3 := A_2.zone z_3
  change q_W _ _ _ _ _ _ _ _ 1401 [.ref 0, .ref 100, .int (nI t), .int (nI s.1), .int (nI (zAs s s.1)), .int (nI (zWs s s.1)), .int (nI (z_cn (zAc s) s.1)), .int (nI (s.1 - z_cn (zAc s ||| zRj s) s.1)), .int (zTs s s.1), .int (nI s.2.2.2.2.2.2.2.2.1), .ref ri, .ref rj, .int (zAc s), .int (zRj s), .int (x_mo_stableCount_9 (zAl s) s.1 (2 ^ s.1) 0 0), .int (nI (z_cnt (zPb s) (2 ^ s.1))), .int (x_ex_sizeOfGreatestAdmissible_10 s.1 s.2.2.2.2.2.1 (2 ^ s.1) 0 0), .int (zCd s (2 ^ s.1)), .int (zCt s (2 ^ s.1)), .ref rg, .int (nI m1), .int (nI m2), .int (z_b (zTg s m1 m2 (2 ^ s.1))), q_u, q_u, q_u, q_u, q_u, q_u, q_u, q_u, q_u] [.int (z_bc (zAc s))] _
  refine q_iload dL_law_1401 rfl ?_
  refine q_icmp_ne 1574 dL_law_1403 (by decide) (fun b => absurd hac b) (fun b => ?_)
  refine q_aload_n (by decide) dL_law_1406 rfl ?_
  obtain ⟨fo4, ho4⟩ := X3.obj
  refine q_invV (mc' := 0) (ms' := 0) (d' := d - 1) (as := []) dL_law_1407 kM_X10_undecidedCount kL_L_247 kI_X10_undecidedCount kS_X10_undecidedCount rfl (kC_X10.1) ho4 rfl rfl (Nat.le_of_ble_eq_true rfl) (by omega) (by decide) (by omega) (by omega) (k_undecidedCount (d := d - 1) X3 V (by omega)) (q_kC (fun h4 hB => ?_)) q_xC
  obtain ⟨X4, z_4⟩ := hB
  have A_4 := A_3.zone z_4
  change q_W _ _ _ _ _ _ _ _ 1410 [.ref 0, .ref 100, .int (nI t), .int (nI s.1), .int (nI (zAs s s.1)), .int (nI (zWs s s.1)), .int (nI (z_cn (zAc s) s.1)), .int (nI (s.1 - z_cn (zAc s ||| zRj s) s.1)), .int (zTs s s.1), .int (nI s.2.2.2.2.2.2.2.2.1), .ref ri, .ref rj, .int (zAc s), .int (zRj s), .int (x_mo_stableCount_9 (zAl s) s.1 (2 ^ s.1) 0 0), .int (nI (z_cnt (zPb s) (2 ^ s.1))), .int (x_ex_sizeOfGreatestAdmissible_10 s.1 s.2.2.2.2.2.1 (2 ^ s.1) 0 0), .int (zCd s (2 ^ s.1)), .int (zCt s (2 ^ s.1)), .ref rg, .int (nI m1), .int (nI m2), .int (z_b (zTg s m1 m2 (2 ^ s.1))), q_u, q_u, q_u, q_u, q_u, q_u, q_u, q_u, q_u] [.int (nI s.1 - z_bc (zAc s ||| zRj s))] _
  refine q_iload dL_law_1410 rfl ?_
  refine q_icmp_ne 1574 dL_law_1412 (by decide) (fun b => absurd (g_und V) b) (fun b => ?_)
  refine q_aload_n (by decide) dL_law_1415 rfl ?_
  obtain ⟨fo5, ho5⟩ := X4.obj
  refine q_invV (mc' := 0) (ms' := 0) (d' := d - 1) (as := []) dL_law_1416 kM_X10_stableCount kL_L_250 kI_X10_stableCount kS_X10_stableCount rfl (kC_X10.1) ho5 rfl rfl (Nat.le_of_ble_eq_true rfl) (by omega) (by decide) (by omega) (by omega) (k_stableCount (d := d - 1) X4 V (by omega)) (q_kC (fun h5 hB => ?_)) q_xC
  obtain ⟨X5, z_5⟩ := hB
  have A_5 := A_4.zone z_5
  change q_W _ _ _ _ _ _ _ _ 1419 [.ref 0, .ref 100, .int (nI t), .int (nI s.1), .int (nI (zAs s s.1)), .int (nI (zWs s s.1)), .int (nI (z_cn (zAc s) s.1)), .int (nI (s.1 - z_cn (zAc s ||| zRj s) s.1)), .int (zTs s s.1), .int (nI s.2.2.2.2.2.2.2.2.1), .ref ri, .ref rj, .int (zAc s), .int (zRj s), .int (x_mo_stableCount_9 (zAl s) s.1 (2 ^ s.1) 0 0), .int (nI (z_cnt (zPb s) (2 ^ s.1))), .int (x_ex_sizeOfGreatestAdmissible_10 s.1 s.2.2.2.2.2.1 (2 ^ s.1) 0 0), .int (zCd s (2 ^ s.1)), .int (zCt s (2 ^ s.1)), .ref rg, .int (nI m1), .int (nI m2), .int (z_b (zTg s m1 m2 (2 ^ s.1))), q_u, q_u, q_u, q_u, q_u, q_u, q_u, q_u, q_u] [.int (x_ex_countStable s.1 s.2.2.2.2.2.1)] _
  refine q_iload dL_law_1419 rfl ?_
  refine q_icmp_ne 1574 dL_law_1421 (by decide) (fun b => absurd (g_stab V) b) (fun b => ?_)
  refine q_aload_n (by decide) dL_law_1424 rfl ?_
  obtain ⟨fo6, ho6⟩ := X5.obj
  refine q_invV (mc' := 0) (ms' := 0) (d' := d - 1) (as := []) dL_law_1425 kM_X10_stableCountByLabels kL_L_253 kI_X10_stableCountByLabels kS_X10_stableCountByLabels rfl (kC_X10.1) ho6 rfl rfl (Nat.le_of_ble_eq_true rfl) (by omega) (by decide) (by omega) (by omega) (k_stableCountByLabels (d := d - 1) X5 V (by omega)) (q_kC (fun h6 hB => ?_)) q_xC
  obtain ⟨X6, z_6⟩ := hB
  have A_6 := A_5.zone z_6
  change q_W _ _ _ _ _ _ _ _ 1428 [.ref 0, .ref 100, .int (nI t), .int (nI s.1), .int (nI (zAs s s.1)), .int (nI (zWs s s.1)), .int (nI (z_cn (zAc s) s.1)), .int (nI (s.1 - z_cn (zAc s ||| zRj s) s.1)), .int (zTs s s.1), .int (nI s.2.2.2.2.2.2.2.2.1), .ref ri, .ref rj, .int (zAc s), .int (zRj s), .int (x_mo_stableCount_9 (zAl s) s.1 (2 ^ s.1) 0 0), .int (nI (z_cnt (zPb s) (2 ^ s.1))), .int (x_ex_sizeOfGreatestAdmissible_10 s.1 s.2.2.2.2.2.1 (2 ^ s.1) 0 0), .int (zCd s (2 ^ s.1)), .int (zCt s (2 ^ s.1)), .ref rg, .int (nI m1), .int (nI m2), .int (z_b (zTg s m1 m2 (2 ^ s.1))), q_u, q_u, q_u, q_u, q_u, q_u, q_u, q_u, q_u] [.int (x_ex_countStableByLabels s.1 s.2.2.2.2.2.1)] _
  refine q_iload dL_law_1428 rfl ?_
  refine q_icmp_ne 1574 dL_law_1430 (by decide) (fun b => absurd (g_stabL V) b) (fun b => ?_)
  refine q_aload_n (by decide) dL_law_1433 rfl ?_
  obtain ⟨fo7, ho7⟩ := X6.obj
  refine q_invV (mc' := 0) (ms' := 0) (d' := d - 1) (as := []) dL_law_1434 kM_X10_preferredCount kL_L_256 kI_X10_preferredCount kS_X10_preferredCount rfl (kC_X10.1) ho7 rfl rfl (Nat.le_of_ble_eq_true rfl) (by omega) (by decide) (by omega) (by omega) (k_preferredCount (d := d - 1) X6 V (by omega)) (q_kC (fun h7 hB => ?_)) q_xC
  obtain ⟨X7, z_7⟩ := hB
  have A_7 := A_6.zone z_7
  change q_W _ _ _ _ _ _ _ _ 1437 [.ref 0, .ref 100, .int (nI t), .int (nI s.1), .int (nI (zAs s s.1)), .int (nI (zWs s s.1)), .int (nI (z_cn (zAc s) s.1)), .int (nI (s.1 - z_cn (zAc s ||| zRj s) s.1)), .int (zTs s s.1), .int (nI s.2.2.2.2.2.2.2.2.1), .ref ri, .ref rj, .int (zAc s), .int (zRj s), .int (x_mo_stableCount_9 (zAl s) s.1 (2 ^ s.1) 0 0), .int (nI (z_cnt (zPb s) (2 ^ s.1))), .int (x_ex_sizeOfGreatestAdmissible_10 s.1 s.2.2.2.2.2.1 (2 ^ s.1) 0 0), .int (zCd s (2 ^ s.1)), .int (zCt s (2 ^ s.1)), .ref rg, .int (nI m1), .int (nI m2), .int (z_b (zTg s m1 m2 (2 ^ s.1))), q_u, q_u, q_u, q_u, q_u, q_u, q_u, q_u, q_u] [.int (zPW s 0)] _
  refine q_iload dL_law_1437 rfl ?_
  refine q_icmp_ne 1574 dL_law_1439 (by decide) (fun b => absurd (g_pw0 V) b) (fun b => ?_)
  refine q_aload_n (by decide) dL_law_1442 rfl ?_
  obtain ⟨fo8, ho8⟩ := X7.obj
  refine q_invV (mc' := 0) (ms' := 0) (d' := d - 1) (as := []) dL_law_1443 kM_X10_greatestAdmissible kL_L_259 kI_X10_greatestAdmissible kS_X10_greatestAdmissible rfl (kC_X10.1) ho8 rfl rfl (Nat.le_of_ble_eq_true rfl) (by omega) (by decide) (by omega) (by omega) (k_greatestAdmissible (d := d - 1) X7 V (by omega)) (q_kC (fun h8 hB => ?_)) q_xC
  obtain ⟨X8, z_8⟩ := hB
  have A_8 := A_7.zone z_8
  change q_W _ _ _ _ _ _ _ _ 1446 [.ref 0, .ref 100, .int (nI t), .int (nI s.1), .int (nI (zAs s s.1)), .int (nI (zWs s s.1)), .int (nI (z_cn (zAc s) s.1)), .int (nI (s.1 - z_cn (zAc s ||| zRj s) s.1)), .int (zTs s s.1), .int (nI s.2.2.2.2.2.2.2.2.1), .ref ri, .ref rj, .int (zAc s), .int (zRj s), .int (x_mo_stableCount_9 (zAl s) s.1 (2 ^ s.1) 0 0), .int (nI (z_cnt (zPb s) (2 ^ s.1))), .int (x_ex_sizeOfGreatestAdmissible_10 s.1 s.2.2.2.2.2.1 (2 ^ s.1) 0 0), .int (zCd s (2 ^ s.1)), .int (zCt s (2 ^ s.1)), .ref rg, .int (nI m1), .int (nI m2), .int (z_b (zTg s m1 m2 (2 ^ s.1))), q_u, q_u, q_u, q_u, q_u, q_u, q_u, q_u, q_u] [.int (x_ex_sizeOfGreatestAdmissible s.1 s.2.2.2.2.2.1)] _
  refine q_iload dL_law_1446 rfl ?_
  refine q_icmp_ne 1574 dL_law_1448 (by decide) (fun b => absurd (g_great s) b) (fun b => ?_)
  refine q_aload_n (by decide) dL_law_1451 rfl ?_
  refine q_aload A_8.r0 dL_law_1452 rfl ?_
  refine q_iload dL_law_1454 rfl ?_
  refine a_ld A_8 dL_law_1456 (by omega) (by omega) ?_
  change q_W _ _ _ _ _ _ _ _ 1457 [.ref 0, .ref 100, .int (nI t), .int (nI s.1), .int (nI (zAs s s.1)), .int (nI (zWs s s.1)), .int (nI (z_cn (zAc s) s.1)), .int (nI (s.1 - z_cn (zAc s ||| zRj s) s.1)), .int (zTs s s.1), .int (nI s.2.2.2.2.2.2.2.2.1), .ref ri, .ref rj, .int (zAc s), .int (zRj s), .int (x_mo_stableCount_9 (zAl s) s.1 (2 ^ s.1) 0 0), .int (nI (z_cnt (zPb s) (2 ^ s.1))), .int (x_ex_sizeOfGreatestAdmissible_10 s.1 s.2.2.2.2.2.1 (2 ^ s.1) 0 0), .int (zCd s (2 ^ s.1)), .int (zCt s (2 ^ s.1)), .ref rg, .int (nI m1), .int (nI m2), .int (z_b (zTg s m1 m2 (2 ^ s.1))), q_u, q_u, q_u, q_u, q_u, q_u, q_u, q_u, q_u] [.int (s.2.1 m1), .ref 100] _
  refine q_aload A_8.r0 dL_law_1457 rfl ?_
  refine q_iload dL_law_1459 rfl ?_
  refine a_ld A_8 dL_law_1461 (by omega) (by omega) ?_
  change q_W _ _ _ _ _ _ _ _ 1462 [.ref 0, .ref 100, .int (nI t), .int (nI s.1), .int (nI (zAs s s.1)), .int (nI (zWs s s.1)), .int (nI (z_cn (zAc s) s.1)), .int (nI (s.1 - z_cn (zAc s ||| zRj s) s.1)), .int (zTs s s.1), .int (nI s.2.2.2.2.2.2.2.2.1), .ref ri, .ref rj, .int (zAc s), .int (zRj s), .int (x_mo_stableCount_9 (zAl s) s.1 (2 ^ s.1) 0 0), .int (nI (z_cnt (zPb s) (2 ^ s.1))), .int (x_ex_sizeOfGreatestAdmissible_10 s.1 s.2.2.2.2.2.1 (2 ^ s.1) 0 0), .int (zCd s (2 ^ s.1)), .int (zCt s (2 ^ s.1)), .ref rg, .int (nI m1), .int (nI m2), .int (z_b (zTg s m1 m2 (2 ^ s.1))), q_u, q_u, q_u, q_u, q_u, q_u, q_u, q_u, q_u] [.int (s.2.1 m2), .int (s.2.1 m1), .ref 100] _
  obtain ⟨fo9, ho9⟩ := X8.obj
  refine q_invV (mc' := 2) (ms' := 12) (d' := d - 1) (as := [.int (s.2.1 m1), .int (s.2.1 m2)]) dL_law_1462 kM_X10_canStandTogether kL_L_262 kI_X10_canStandTogether kS_X10_canStandTogether rfl (kC_X10.1) ho9 rfl rfl (Nat.le_of_ble_eq_true rfl) (by omega) (by decide) (by omega) (by omega) (k_canStandTogether (d := d - 1) X8 V hm1 hm2 (by omega)) (q_kC (fun h9 hB => ?_)) q_xC
  obtain ⟨X9, z_9⟩ := hB
  have A_9 := A_8.zone z_9
  change q_W _ _ _ _ _ _ _ _ 1465 [.ref 0, .ref 100, .int (nI t), .int (nI s.1), .int (nI (zAs s s.1)), .int (nI (zWs s s.1)), .int (nI (z_cn (zAc s) s.1)), .int (nI (s.1 - z_cn (zAc s ||| zRj s) s.1)), .int (zTs s s.1), .int (nI s.2.2.2.2.2.2.2.2.1), .ref ri, .ref rj, .int (zAc s), .int (zRj s), .int (x_mo_stableCount_9 (zAl s) s.1 (2 ^ s.1) 0 0), .int (nI (z_cnt (zPb s) (2 ^ s.1))), .int (x_ex_sizeOfGreatestAdmissible_10 s.1 s.2.2.2.2.2.1 (2 ^ s.1) 0 0), .int (zCd s (2 ^ s.1)), .int (zCt s (2 ^ s.1)), .ref rg, .int (nI m1), .int (nI m2), .int (z_b (zTg s m1 m2 (2 ^ s.1))), q_u, q_u, q_u, q_u, q_u, q_u, q_u, q_u, q_u] [.int (z_b (decide (¬ zPW s (zBt m1 ||| zBt m2) ≤ 0)))] _
  refine q_iload dL_law_1465 rfl ?_
  refine q_icmp_ne 1574 dL_law_1467 (by decide) (fun b => absurd (g_tog V hm1 hm2) b) (fun b => ?_)
  refine q_aload_n (by decide) dL_law_1470 rfl ?_
  obtain ⟨fo10, ho10⟩ := X9.obj
  refine q_invV (mc' := 0) (ms' := 0) (d' := d - 1) (as := []) dL_law_1471 kM_X10_hasCycle kL_L_265 kI_X10_hasCycle kS_X10_hasCycle rfl (kC_X10.1) ho10 rfl rfl (Nat.le_of_ble_eq_true rfl) (by omega) (by decide) (by omega) (by omega) (k_hasCycle (d := d - 1) X9 V (by omega)) (q_kC (fun h10 hB => ?_)) q_xC
  obtain ⟨X10, z_10⟩ := hB
  have A_10 := A_9.zone z_10
  change q_W _ _ _ _ _ _ _ _ 1474 [.ref 0, .ref 100, .int (nI t), .int (nI s.1), .int (nI (zAs s s.1)), .int (nI (zWs s s.1)), .int (nI (z_cn (zAc s) s.1)), .int (nI (s.1 - z_cn (zAc s ||| zRj s) s.1)), .int (zTs s s.1), .int (nI s.2.2.2.2.2.2.2.2.1), .ref ri, .ref rj, .int (zAc s), .int (zRj s), .int (x_mo_stableCount_9 (zAl s) s.1 (2 ^ s.1) 0 0), .int (nI (z_cnt (zPb s) (2 ^ s.1))), .int (x_ex_sizeOfGreatestAdmissible_10 s.1 s.2.2.2.2.2.1 (2 ^ s.1) 0 0), .int (zCd s (2 ^ s.1)), .int (zCt s (2 ^ s.1)), .ref rg, .int (nI m1), .int (nI m2), .int (z_b (zTg s m1 m2 (2 ^ s.1))), q_u, q_u, q_u, q_u, q_u, q_u, q_u, q_u, q_u] [.int (z_b (x_cy_remain s.1 s.2.2.2.2.2.1))] _
  refine q_aload_n (by decide) dL_law_1474 rfl ?_
  obtain ⟨fo11, ho11⟩ := X10.obj
  refine q_invV (mc' := 0) (ms' := 0) (d' := d - 1) (as := []) dL_law_1475 kM_X10_hasCycleBySearch kL_L_269 kI_X10_hasCycleBySearch kS_X10_hasCycleBySearch rfl (kC_X10.1) ho11 rfl rfl (Nat.le_of_ble_eq_true rfl) (by omega) (by decide) (by omega) (by omega) (k_hasCycleBySearch (d := d - 1) X10 V (by omega)) (q_kC (fun h11 hB => ?_)) q_xC
  obtain ⟨X11, z_11⟩ := hB
  have A_11 := A_10.zone z_11
  change q_W _ _ _ _ _ _ _ _ 1478 [.ref 0, .ref 100, .int (nI t), .int (nI s.1), .int (nI (zAs s s.1)), .int (nI (zWs s s.1)), .int (nI (z_cn (zAc s) s.1)), .int (nI (s.1 - z_cn (zAc s ||| zRj s) s.1)), .int (zTs s s.1), .int (nI s.2.2.2.2.2.2.2.2.1), .ref ri, .ref rj, .int (zAc s), .int (zRj s), .int (x_mo_stableCount_9 (zAl s) s.1 (2 ^ s.1) 0 0), .int (nI (z_cnt (zPb s) (2 ^ s.1))), .int (x_ex_sizeOfGreatestAdmissible_10 s.1 s.2.2.2.2.2.1 (2 ^ s.1) 0 0), .int (zCd s (2 ^ s.1)), .int (zCt s (2 ^ s.1)), .ref rg, .int (nI m1), .int (nI m2), .int (z_b (zTg s m1 m2 (2 ^ s.1))), q_u, q_u, q_u, q_u, q_u, q_u, q_u, q_u, q_u] [.int (z_b (x_cy_areFound s.1 s.2.2.2.2.2.1)), .int (z_b (x_cy_remain s.1 s.2.2.2.2.2.1))] _
  refine q_icmp_ne 1574 dL_law_1478 (by decide) (fun b => absurd (by rw [g_cyc2 V]) b) (fun b => ?_)
  refine q_aload_n (by decide) dL_law_1481 rfl ?_
  obtain ⟨fo12, ho12⟩ := X11.obj
  refine q_invV (mc' := 0) (ms' := 0) (d' := d - 1) (as := []) dL_law_1482 kM_X10_hasCycle kL_L_265 kI_X10_hasCycle kS_X10_hasCycle rfl (kC_X10.1) ho12 rfl rfl (Nat.le_of_ble_eq_true rfl) (by omega) (by decide) (by omega) (by omega) (k_hasCycle (d := d - 1) X11 V (by omega)) (q_kC (fun h12 hB => ?_)) q_xC
  obtain ⟨X12, z_12⟩ := hB
  have A_12 := A_11.zone z_12
  change q_W _ _ _ _ _ _ _ _ 1485 [.ref 0, .ref 100, .int (nI t), .int (nI s.1), .int (nI (zAs s s.1)), .int (nI (zWs s s.1)), .int (nI (z_cn (zAc s) s.1)), .int (nI (s.1 - z_cn (zAc s ||| zRj s) s.1)), .int (zTs s s.1), .int (nI s.2.2.2.2.2.2.2.2.1), .ref ri, .ref rj, .int (zAc s), .int (zRj s), .int (x_mo_stableCount_9 (zAl s) s.1 (2 ^ s.1) 0 0), .int (nI (z_cnt (zPb s) (2 ^ s.1))), .int (x_ex_sizeOfGreatestAdmissible_10 s.1 s.2.2.2.2.2.1 (2 ^ s.1) 0 0), .int (zCd s (2 ^ s.1)), .int (zCt s (2 ^ s.1)), .ref rg, .int (nI m1), .int (nI m2), .int (z_b (zTg s m1 m2 (2 ^ s.1))), q_u, q_u, q_u, q_u, q_u, q_u, q_u, q_u, q_u] [.int (z_b (x_cy_remain s.1 s.2.2.2.2.2.1))] _
  have J : ∀ h, z_X h s lc fl → z_arr 0 h ri s.1 s.2.1 → q_W g mL_law d mc ms Q (kc + 2) (ks + 12) 1499 [.ref 0, .ref 100, .int (nI t), .int (nI s.1), .int (nI (zAs s s.1)), .int (nI (zWs s s.1)), .int (nI (z_cn (zAc s) s.1)), .int (nI (s.1 - z_cn (zAc s ||| zRj s) s.1)), .int (zTs s s.1), .int (nI s.2.2.2.2.2.2.2.2.1), .ref ri, .ref rj, .int (zAc s), .int (zRj s), .int (x_mo_stableCount_9 (zAl s) s.1 (2 ^ s.1) 0 0), .int (nI (z_cnt (zPb s) (2 ^ s.1))), .int (x_ex_sizeOfGreatestAdmissible_10 s.1 s.2.2.2.2.2.1 (2 ^ s.1) 0 0), .int (zCd s (2 ^ s.1)), .int (zCt s (2 ^ s.1)), .ref rg, .int (nI m1), .int (nI m2), .int (z_b (zTg s m1 m2 (2 ^ s.1))), q_u, q_u, q_u, q_u, q_u, q_u, q_u, q_u, q_u] [] h := by
    intro h X A
    refine q_aload_n (by decide) dL_law_1499 rfl ?_
    obtain ⟨fo13, ho13⟩ := X.obj
    refine q_invV (mc' := 0) (ms' := 0) (d' := d - 1) (as := []) dL_law_1500 kM_X10_isDialogueHeld kL_L_272 kI_X10_isDialogueHeld kS_X10_isDialogueHeld rfl (kC_X10.1) ho13 rfl rfl (Nat.le_of_ble_eq_true rfl) (by omega) (by decide) (by omega) (by omega) (k_isDialogueHeld (d := d - 1) X V (by omega)) (q_kC (fun h13 hB => ?_)) q_xC
    obtain ⟨X13, z_13⟩ := hB
    have A_13 := A.zone z_13
    change q_W _ _ _ _ _ _ _ _ 1503 [.ref 0, .ref 100, .int (nI t), .int (nI s.1), .int (nI (zAs s s.1)), .int (nI (zWs s s.1)), .int (nI (z_cn (zAc s) s.1)), .int (nI (s.1 - z_cn (zAc s ||| zRj s) s.1)), .int (zTs s s.1), .int (nI s.2.2.2.2.2.2.2.2.1), .ref ri, .ref rj, .int (zAc s), .int (zRj s), .int (x_mo_stableCount_9 (zAl s) s.1 (2 ^ s.1) 0 0), .int (nI (z_cnt (zPb s) (2 ^ s.1))), .int (x_ex_sizeOfGreatestAdmissible_10 s.1 s.2.2.2.2.2.1 (2 ^ s.1) 0 0), .int (zCd s (2 ^ s.1)), .int (zCt s (2 ^ s.1)), .ref rg, .int (nI m1), .int (nI m2), .int (z_b (zTg s m1 m2 (2 ^ s.1))), q_u, q_u, q_u, q_u, q_u, q_u, q_u, q_u, q_u] [.int (z_b (x_am_isDialogueHeld s.2.2.2.2.2.2.2.2.1))] _
    refine q_iload dL_law_1503 rfl ?_
    refine r_le01 dL_law_1505 dL_law_1508 dL_law_1509 dL_law_1512 ?_
    change q_W _ _ _ _ _ _ _ _ 1513 [.ref 0, .ref 100, .int (nI t), .int (nI s.1), .int (nI (zAs s s.1)), .int (nI (zWs s s.1)), .int (nI (z_cn (zAc s) s.1)), .int (nI (s.1 - z_cn (zAc s ||| zRj s) s.1)), .int (zTs s s.1), .int (nI s.2.2.2.2.2.2.2.2.1), .ref ri, .ref rj, .int (zAc s), .int (zRj s), .int (x_mo_stableCount_9 (zAl s) s.1 (2 ^ s.1) 0 0), .int (nI (z_cnt (zPb s) (2 ^ s.1))), .int (x_ex_sizeOfGreatestAdmissible_10 s.1 s.2.2.2.2.2.1 (2 ^ s.1) 0 0), .int (zCd s (2 ^ s.1)), .int (zCt s (2 ^ s.1)), .ref rg, .int (nI m1), .int (nI m2), .int (z_b (zTg s m1 m2 (2 ^ s.1))), q_u, q_u, q_u, q_u, q_u, q_u, q_u, q_u, q_u] [.int (if (nI s.2.2.2.2.2.2.2.2.1) ≤ 0 then 0 else 1), .int (z_b (x_am_isDialogueHeld s.2.2.2.2.2.2.2.2.1))] _
    refine q_icmp_ne 1574 dL_law_1513 (by decide) (fun b => absurd (g_held (by omega)) b) (fun b => ?_)
    refine q_aload_n (by decide) dL_law_1516 rfl ?_
    refine q_iload dL_law_1517 rfl ?_
    refine q_invSH (mc' := 1) (ms' := 6) (d' := d - 1) (as := [.ref 100, .int (nI s.2.2.2.2.2.2.2.2.1)]) dL_law_1519 kM_L_moveAt kL_L_275 kT_L_moveAt rfl rfl rfl (Nat.le_of_ble_eq_true rfl) (by omega) (by decide) (by omega) (by omega) (w_moveAtN (d := d - 1) X13 V (by omega)) (q_kC (fun h14 hB => ?_)) q_xC
    obtain ⟨X14, z_14⟩ := hB
    have A_14 := A_13.zone z_14
    change q_W _ _ _ _ _ _ _ _ 1522 [.ref 0, .ref 100, .int (nI t), .int (nI s.1), .int (nI (zAs s s.1)), .int (nI (zWs s s.1)), .int (nI (z_cn (zAc s) s.1)), .int (nI (s.1 - z_cn (zAc s ||| zRj s) s.1)), .int (zTs s s.1), .int (nI s.2.2.2.2.2.2.2.2.1), .ref ri, .ref rj, .int (zAc s), .int (zRj s), .int (x_mo_stableCount_9 (zAl s) s.1 (2 ^ s.1) 0 0), .int (nI (z_cnt (zPb s) (2 ^ s.1))), .int (x_ex_sizeOfGreatestAdmissible_10 s.1 s.2.2.2.2.2.1 (2 ^ s.1) 0 0), .int (zCd s (2 ^ s.1)), .int (zCt s (2 ^ s.1)), .ref rg, .int (nI m1), .int (nI m2), .int (z_b (zTg s m1 m2 (2 ^ s.1))), q_u, q_u, q_u, q_u, q_u, q_u, q_u, q_u, q_u] [.int (-25000)] _
    refine q_sipush (v := -25000) dL_law_1522 rfl ?_
    refine q_icmp_ne 1574 dL_law_1525 (by decide) (fun b => absurd rfl b) (fun b => ?_)
    refine q_aload_n (by decide) dL_law_1528 rfl ?_
    obtain ⟨fo15, ho15⟩ := X14.obj
    refine q_invV (mc' := 1) (ms' := 6) (d' := d - 1) (as := []) dL_law_1529 kM_X10_meanStrength kL_L_277 kI_X10_meanStrength kS_X10_meanStrength rfl (kC_X10.1) ho15 rfl rfl (Nat.le_of_ble_eq_true rfl) (by omega) (by decide) (by omega) (by omega) (k_meanStrength (d := d - 1) X14 V h0 (by omega)) (q_kC (fun h15 hB => ?_)) q_xC
    obtain ⟨X15, z_15⟩ := hB
    have A_15 := A_14.zone z_15
    change q_W _ _ _ _ _ _ _ _ 1532 [.ref 0, .ref 100, .int (nI t), .int (nI s.1), .int (nI (zAs s s.1)), .int (nI (zWs s s.1)), .int (nI (z_cn (zAc s) s.1)), .int (nI (s.1 - z_cn (zAc s ||| zRj s) s.1)), .int (zTs s s.1), .int (nI s.2.2.2.2.2.2.2.2.1), .ref ri, .ref rj, .int (zAc s), .int (zRj s), .int (x_mo_stableCount_9 (zAl s) s.1 (2 ^ s.1) 0 0), .int (nI (z_cnt (zPb s) (2 ^ s.1))), .int (x_ex_sizeOfGreatestAdmissible_10 s.1 s.2.2.2.2.2.1 (2 ^ s.1) 0 0), .int (zCd s (2 ^ s.1)), .int (zCt s (2 ^ s.1)), .ref rg, .int (nI m1), .int (nI m2), .int (z_b (zTg s m1 m2 (2 ^ s.1))), q_u, q_u, q_u, q_u, q_u, q_u, q_u, q_u, q_u] [.double (FP.ddiv (FP.i2d (zTs s s.1)) (FP.i2d (nI s.1)))] _
    refine q_iload dL_law_1532 rfl ?_
    refine q_i2d dL_law_1534 ?_
    refine q_iload_n dL_law_1535 rfl ?_
    refine q_i2d dL_law_1536 ?_
    refine q_ddiv dL_law_1537 (by rw [et]; exact z_fpD tn t1 s.1 (by omega) h0) ?_
    refine q_dcmp (op := .l) dL_law_1538 ?_
    change q_W _ _ _ _ _ _ _ _ 1539 [.ref 0, .ref 100, .int (nI t), .int (nI s.1), .int (nI (zAs s s.1)), .int (nI (zWs s s.1)), .int (nI (z_cn (zAc s) s.1)), .int (nI (s.1 - z_cn (zAc s ||| zRj s) s.1)), .int (zTs s s.1), .int (nI s.2.2.2.2.2.2.2.2.1), .ref ri, .ref rj, .int (zAc s), .int (zRj s), .int (x_mo_stableCount_9 (zAl s) s.1 (2 ^ s.1) 0 0), .int (nI (z_cnt (zPb s) (2 ^ s.1))), .int (x_ex_sizeOfGreatestAdmissible_10 s.1 s.2.2.2.2.2.1 (2 ^ s.1) 0 0), .int (zCd s (2 ^ s.1)), .int (zCt s (2 ^ s.1)), .ref rg, .int (nI m1), .int (nI m2), .int (z_b (zTg s m1 m2 (2 ^ s.1))), q_u, q_u, q_u, q_u, q_u, q_u, q_u, q_u, q_u] [.int (Op.cmpValue (FP.dcmp (FP.ddiv (FP.i2d (zTs s s.1)) (FP.i2d (nI s.1))) (FP.ddiv (FP.i2d (zTs s s.1)) (FP.i2d (nI s.1)))) .l)] _
    refine q_if_ne 1574 dL_law_1539 (by decide) (fun b => absurd (by rw [et]; exact z_fpD2 tn t1 s.1 (by omega) h0) b) (fun b => ?_)
    refine q_aload_n (by decide) dL_law_1542 rfl ?_
    obtain ⟨fo16, ho16⟩ := X15.obj
    refine q_invV (mc' := 1) (ms' := 6) (d' := d - 1) (as := []) dL_law_1543 kM_X10_acceptedShare kL_L_281 kI_X10_acceptedShare kS_X10_acceptedShare rfl (kC_X10.1) ho16 rfl rfl (Nat.le_of_ble_eq_true rfl) (by omega) (by decide) (by omega) (by omega) (k_acceptedShare (d := d - 1) X15 V h0 (by omega)) (q_kC (fun h16 hB => ?_)) q_xC
    obtain ⟨X16, z_16⟩ := hB
    have A_16 := A_15.zone z_16
    change q_W _ _ _ _ _ _ _ _ 1546 [.ref 0, .ref 100, .int (nI t), .int (nI s.1), .int (nI (zAs s s.1)), .int (nI (zWs s s.1)), .int (nI (z_cn (zAc s) s.1)), .int (nI (s.1 - z_cn (zAc s ||| zRj s) s.1)), .int (zTs s s.1), .int (nI s.2.2.2.2.2.2.2.2.1), .ref ri, .ref rj, .int (zAc s), .int (zRj s), .int (x_mo_stableCount_9 (zAl s) s.1 (2 ^ s.1) 0 0), .int (nI (z_cnt (zPb s) (2 ^ s.1))), .int (x_ex_sizeOfGreatestAdmissible_10 s.1 s.2.2.2.2.2.1 (2 ^ s.1) 0 0), .int (zCd s (2 ^ s.1)), .int (zCt s (2 ^ s.1)), .ref rg, .int (nI m1), .int (nI m2), .int (z_b (zTg s m1 m2 (2 ^ s.1))), q_u, q_u, q_u, q_u, q_u, q_u, q_u, q_u, q_u] [.float (FP.fdiv (FP.i2f (z_bc (zAc s))) (FP.i2f (nI s.1)))] _
    refine q_iload dL_law_1546 rfl ?_
    refine q_i2f dL_law_1548 ?_
    refine q_iload_n dL_law_1549 rfl ?_
    refine q_i2f dL_law_1550 ?_
    refine q_fdiv dL_law_1551 (z_fpF _ (by omega) s.1 (by omega) h0).1 ?_
    refine q_fcmp (op := .l) dL_law_1552 ?_
    change q_W _ _ _ _ _ _ _ _ 1553 [.ref 0, .ref 100, .int (nI t), .int (nI s.1), .int (nI (zAs s s.1)), .int (nI (zWs s s.1)), .int (nI (z_cn (zAc s) s.1)), .int (nI (s.1 - z_cn (zAc s ||| zRj s) s.1)), .int (zTs s s.1), .int (nI s.2.2.2.2.2.2.2.2.1), .ref ri, .ref rj, .int (zAc s), .int (zRj s), .int (x_mo_stableCount_9 (zAl s) s.1 (2 ^ s.1) 0 0), .int (nI (z_cnt (zPb s) (2 ^ s.1))), .int (x_ex_sizeOfGreatestAdmissible_10 s.1 s.2.2.2.2.2.1 (2 ^ s.1) 0 0), .int (zCd s (2 ^ s.1)), .int (zCt s (2 ^ s.1)), .ref rg, .int (nI m1), .int (nI m2), .int (z_b (zTg s m1 m2 (2 ^ s.1))), q_u, q_u, q_u, q_u, q_u, q_u, q_u, q_u, q_u] [.int (Op.cmpValue (FP.fcmp (FP.fdiv (FP.i2f (z_bc (zAc s))) (FP.i2f (nI s.1))) (FP.fdiv (FP.i2f (nI (z_cn (zAc s) s.1))) (FP.i2f (nI s.1)))) .l)] _
    refine q_if_ne 1574 dL_law_1553 (by decide) (fun b => absurd (by rw [hac]; exact z_fpF2 _ (by omega) s.1 (by omega) h0) b) (fun b => ?_)
    refine q_aload_n (by decide) dL_law_1556 rfl ?_
    refine q_iload_n dL_law_1557 rfl ?_
    refine q_invSH (mc' := 1) (ms' := 6) (d' := d - 1) (as := [.ref 100, .int (nI s.1)]) dL_law_1558 kM_L_argumentByStrength kL_L_285 kT_L_argumentByStrength rfl rfl rfl (Nat.le_of_ble_eq_true rfl) (by omega) (by decide) (by omega) (by omega) (w_argumentByStrengthN (d := d - 1) X16 V (by omega)) (q_kC (fun h17 hB => ?_)) q_xC
    obtain ⟨X17, z_17⟩ := hB
    have A_17 := A_16.zone z_17
    change q_W _ _ _ _ _ _ _ _ 1561 [.ref 0, .ref 100, .int (nI t), .int (nI s.1), .int (nI (zAs s s.1)), .int (nI (zWs s s.1)), .int (nI (z_cn (zAc s) s.1)), .int (nI (s.1 - z_cn (zAc s ||| zRj s) s.1)), .int (zTs s s.1), .int (nI s.2.2.2.2.2.2.2.2.1), .ref ri, .ref rj, .int (zAc s), .int (zRj s), .int (x_mo_stableCount_9 (zAl s) s.1 (2 ^ s.1) 0 0), .int (nI (z_cnt (zPb s) (2 ^ s.1))), .int (x_ex_sizeOfGreatestAdmissible_10 s.1 s.2.2.2.2.2.1 (2 ^ s.1) 0 0), .int (zCd s (2 ^ s.1)), .int (zCt s (2 ^ s.1)), .ref rg, .int (nI m1), .int (nI m2), .int (z_b (zTg s m1 m2 (2 ^ s.1))), q_u, q_u, q_u, q_u, q_u, q_u, q_u, q_u, q_u] [.int (-30000)] _
    refine q_sipush (v := -30000) dL_law_1561 rfl ?_
    refine q_icmp_ne 1574 dL_law_1564 (by decide) (fun b => absurd rfl b) (fun b => ?_)
    refine q_aload_n (by decide) dL_law_1567 rfl ?_
    obtain ⟨fo18, ho18⟩ := X17.obj
    refine q_invV (mc' := 0) (ms' := 0) (d' := d - 1) (as := []) dL_law_1568 kM_X10_isConsistent kL_L_287 kI_X10_isConsistent kS_X10_isConsistent rfl (kC_X10.1) ho18 rfl rfl (Nat.le_of_ble_eq_true rfl) (by omega) (by decide) (by omega) (by omega) (k_isConsistent (d := d - 1) X17 V (by omega)) (q_kC (fun h18 hB => ?_)) q_xC
    obtain ⟨X18, z_18⟩ := hB
    have A_18 := A_17.zone z_18
    change q_W _ _ _ _ _ _ _ _ 1571 [.ref 0, .ref 100, .int (nI t), .int (nI s.1), .int (nI (zAs s s.1)), .int (nI (zWs s s.1)), .int (nI (z_cn (zAc s) s.1)), .int (nI (s.1 - z_cn (zAc s ||| zRj s) s.1)), .int (zTs s s.1), .int (nI s.2.2.2.2.2.2.2.2.1), .ref ri, .ref rj, .int (zAc s), .int (zRj s), .int (x_mo_stableCount_9 (zAl s) s.1 (2 ^ s.1) 0 0), .int (nI (z_cnt (zPb s) (2 ^ s.1))), .int (x_ex_sizeOfGreatestAdmissible_10 s.1 s.2.2.2.2.2.1 (2 ^ s.1) 0 0), .int (zCd s (2 ^ s.1)), .int (zCt s (2 ^ s.1)), .ref rg, .int (nI m1), .int (nI m2), .int (z_b (zTg s m1 m2 (2 ^ s.1))), q_u, q_u, q_u, q_u, q_u, q_u, q_u, q_u, q_u] [.int 1] _
    refine q_if_ne 1576 dL_law_1571 (by decide) (fun b => ?_) (fun b => absurd b (show ¬ (1 : Int32) = 0 by decide))
    refine q_aload_n (by decide) dL_law_1576 rfl ?_
    refine q_aload_nO ho dL_law_1577 rfl ?_
    refine q_bipush (v := 110) dL_law_1578 rfl ?_
    refine q_iconst (v := 3) dL_law_1580 rfl ?_
    refine q_iload_n dL_law_1581 rfl ?_
    refine q_imulN (a := 3) (b := t) dL_law_1582 ?_
    refine q_iaddN (a := 110) (b := 3 * t) dL_law_1583 ?_
    refine q_invS (mc' := 80) (ms' := 480) (d' := d - 1) (as := [.ref 100, .ref 0, .int (nI (110 + (3 * t)))]) dL_law_1584 kM_L_acts kL_L_97 kT_L_acts rfl rfl rfl (Nat.le_of_ble_eq_true rfl) (by omega) (by decide) (by omega) (by omega) (e_acts (d := d - 1) X18 V (by omega) hn ho hN (by omega) (by omega)) (fun v19 h19 hB => ?_) (fun E19 h19 hB => by
        obtain ⟨s9, e9, -⟩ := hB
        cases e9)
    obtain ⟨s19, e9, X19, z_19, V19, na19, nb19⟩ := hB
    injection e9 with e9
    subst e9
    have A_19 := A_18.zone z_19
    change q_W _ _ _ _ _ _ _ _ 1587 [.ref 0, .ref 100, .int (nI t), .int (nI s.1), .int (nI (zAs s s.1)), .int (nI (zWs s s.1)), .int (nI (z_cn (zAc s) s.1)), .int (nI (s.1 - z_cn (zAc s ||| zRj s) s.1)), .int (zTs s s.1), .int (nI s.2.2.2.2.2.2.2.2.1), .ref ri, .ref rj, .int (zAc s), .int (zRj s), .int (x_mo_stableCount_9 (zAl s) s.1 (2 ^ s.1) 0 0), .int (nI (z_cnt (zPb s) (2 ^ s.1))), .int (x_ex_sizeOfGreatestAdmissible_10 s.1 s.2.2.2.2.2.1 (2 ^ s.1) 0 0), .int (zCd s (2 ^ s.1)), .int (zCt s (2 ^ s.1)), .ref rg, .int (nI m1), .int (nI m2), .int (z_b (zTg s m1 m2 (2 ^ s.1))), q_u, q_u, q_u, q_u, q_u, q_u, q_u, q_u, q_u] [] _
    refine q_forget 3 ?_
    change q_W _ _ _ _ _ _ _ _ 1587 [.ref 0, .ref 100, .int (nI t), q_u, .int (nI (zAs s s.1)), .int (nI (zWs s s.1)), .int (nI (z_cn (zAc s) s.1)), .int (nI (s.1 - z_cn (zAc s ||| zRj s) s.1)), .int (zTs s s.1), .int (nI s.2.2.2.2.2.2.2.2.1), .ref ri, .ref rj, .int (zAc s), .int (zRj s), .int (x_mo_stableCount_9 (zAl s) s.1 (2 ^ s.1) 0 0), .int (nI (z_cnt (zPb s) (2 ^ s.1))), .int (x_ex_sizeOfGreatestAdmissible_10 s.1 s.2.2.2.2.2.1 (2 ^ s.1) 0 0), .int (zCd s (2 ^ s.1)), .int (zCt s (2 ^ s.1)), .ref rg, .int (nI m1), .int (nI m2), .int (z_b (zTg s m1 m2 (2 ^ s.1))), q_u, q_u, q_u, q_u, q_u, q_u, q_u, q_u, q_u] [] _
    refine q_forget 4 ?_
    change q_W _ _ _ _ _ _ _ _ 1587 [.ref 0, .ref 100, .int (nI t), q_u, q_u, .int (nI (zWs s s.1)), .int (nI (z_cn (zAc s) s.1)), .int (nI (s.1 - z_cn (zAc s ||| zRj s) s.1)), .int (zTs s s.1), .int (nI s.2.2.2.2.2.2.2.2.1), .ref ri, .ref rj, .int (zAc s), .int (zRj s), .int (x_mo_stableCount_9 (zAl s) s.1 (2 ^ s.1) 0 0), .int (nI (z_cnt (zPb s) (2 ^ s.1))), .int (x_ex_sizeOfGreatestAdmissible_10 s.1 s.2.2.2.2.2.1 (2 ^ s.1) 0 0), .int (zCd s (2 ^ s.1)), .int (zCt s (2 ^ s.1)), .ref rg, .int (nI m1), .int (nI m2), .int (z_b (zTg s m1 m2 (2 ^ s.1))), q_u, q_u, q_u, q_u, q_u, q_u, q_u, q_u, q_u] [] _
    refine q_forget 5 ?_
    change q_W _ _ _ _ _ _ _ _ 1587 [.ref 0, .ref 100, .int (nI t), q_u, q_u, q_u, .int (nI (z_cn (zAc s) s.1)), .int (nI (s.1 - z_cn (zAc s ||| zRj s) s.1)), .int (zTs s s.1), .int (nI s.2.2.2.2.2.2.2.2.1), .ref ri, .ref rj, .int (zAc s), .int (zRj s), .int (x_mo_stableCount_9 (zAl s) s.1 (2 ^ s.1) 0 0), .int (nI (z_cnt (zPb s) (2 ^ s.1))), .int (x_ex_sizeOfGreatestAdmissible_10 s.1 s.2.2.2.2.2.1 (2 ^ s.1) 0 0), .int (zCd s (2 ^ s.1)), .int (zCt s (2 ^ s.1)), .ref rg, .int (nI m1), .int (nI m2), .int (z_b (zTg s m1 m2 (2 ^ s.1))), q_u, q_u, q_u, q_u, q_u, q_u, q_u, q_u, q_u] [] _
    refine q_forget 6 ?_
    change q_W _ _ _ _ _ _ _ _ 1587 [.ref 0, .ref 100, .int (nI t), q_u, q_u, q_u, q_u, .int (nI (s.1 - z_cn (zAc s ||| zRj s) s.1)), .int (zTs s s.1), .int (nI s.2.2.2.2.2.2.2.2.1), .ref ri, .ref rj, .int (zAc s), .int (zRj s), .int (x_mo_stableCount_9 (zAl s) s.1 (2 ^ s.1) 0 0), .int (nI (z_cnt (zPb s) (2 ^ s.1))), .int (x_ex_sizeOfGreatestAdmissible_10 s.1 s.2.2.2.2.2.1 (2 ^ s.1) 0 0), .int (zCd s (2 ^ s.1)), .int (zCt s (2 ^ s.1)), .ref rg, .int (nI m1), .int (nI m2), .int (z_b (zTg s m1 m2 (2 ^ s.1))), q_u, q_u, q_u, q_u, q_u, q_u, q_u, q_u, q_u] [] _
    refine q_forget 7 ?_
    change q_W _ _ _ _ _ _ _ _ 1587 [.ref 0, .ref 100, .int (nI t), q_u, q_u, q_u, q_u, q_u, .int (zTs s s.1), .int (nI s.2.2.2.2.2.2.2.2.1), .ref ri, .ref rj, .int (zAc s), .int (zRj s), .int (x_mo_stableCount_9 (zAl s) s.1 (2 ^ s.1) 0 0), .int (nI (z_cnt (zPb s) (2 ^ s.1))), .int (x_ex_sizeOfGreatestAdmissible_10 s.1 s.2.2.2.2.2.1 (2 ^ s.1) 0 0), .int (zCd s (2 ^ s.1)), .int (zCt s (2 ^ s.1)), .ref rg, .int (nI m1), .int (nI m2), .int (z_b (zTg s m1 m2 (2 ^ s.1))), q_u, q_u, q_u, q_u, q_u, q_u, q_u, q_u, q_u] [] _
    refine q_forget 8 ?_
    change q_W _ _ _ _ _ _ _ _ 1587 [.ref 0, .ref 100, .int (nI t), q_u, q_u, q_u, q_u, q_u, q_u, .int (nI s.2.2.2.2.2.2.2.2.1), .ref ri, .ref rj, .int (zAc s), .int (zRj s), .int (x_mo_stableCount_9 (zAl s) s.1 (2 ^ s.1) 0 0), .int (nI (z_cnt (zPb s) (2 ^ s.1))), .int (x_ex_sizeOfGreatestAdmissible_10 s.1 s.2.2.2.2.2.1 (2 ^ s.1) 0 0), .int (zCd s (2 ^ s.1)), .int (zCt s (2 ^ s.1)), .ref rg, .int (nI m1), .int (nI m2), .int (z_b (zTg s m1 m2 (2 ^ s.1))), q_u, q_u, q_u, q_u, q_u, q_u, q_u, q_u, q_u] [] _
    refine q_forget 9 ?_
    change q_W _ _ _ _ _ _ _ _ 1587 [.ref 0, .ref 100, .int (nI t), q_u, q_u, q_u, q_u, q_u, q_u, q_u, .ref ri, .ref rj, .int (zAc s), .int (zRj s), .int (x_mo_stableCount_9 (zAl s) s.1 (2 ^ s.1) 0 0), .int (nI (z_cnt (zPb s) (2 ^ s.1))), .int (x_ex_sizeOfGreatestAdmissible_10 s.1 s.2.2.2.2.2.1 (2 ^ s.1) 0 0), .int (zCd s (2 ^ s.1)), .int (zCt s (2 ^ s.1)), .ref rg, .int (nI m1), .int (nI m2), .int (z_b (zTg s m1 m2 (2 ^ s.1))), q_u, q_u, q_u, q_u, q_u, q_u, q_u, q_u, q_u] [] _
    refine q_forget 10 ?_
    change q_W _ _ _ _ _ _ _ _ 1587 [.ref 0, .ref 100, .int (nI t), q_u, q_u, q_u, q_u, q_u, q_u, q_u, q_u, .ref rj, .int (zAc s), .int (zRj s), .int (x_mo_stableCount_9 (zAl s) s.1 (2 ^ s.1) 0 0), .int (nI (z_cnt (zPb s) (2 ^ s.1))), .int (x_ex_sizeOfGreatestAdmissible_10 s.1 s.2.2.2.2.2.1 (2 ^ s.1) 0 0), .int (zCd s (2 ^ s.1)), .int (zCt s (2 ^ s.1)), .ref rg, .int (nI m1), .int (nI m2), .int (z_b (zTg s m1 m2 (2 ^ s.1))), q_u, q_u, q_u, q_u, q_u, q_u, q_u, q_u, q_u] [] _
    refine q_forget 11 ?_
    change q_W _ _ _ _ _ _ _ _ 1587 [.ref 0, .ref 100, .int (nI t), q_u, q_u, q_u, q_u, q_u, q_u, q_u, q_u, q_u, .int (zAc s), .int (zRj s), .int (x_mo_stableCount_9 (zAl s) s.1 (2 ^ s.1) 0 0), .int (nI (z_cnt (zPb s) (2 ^ s.1))), .int (x_ex_sizeOfGreatestAdmissible_10 s.1 s.2.2.2.2.2.1 (2 ^ s.1) 0 0), .int (zCd s (2 ^ s.1)), .int (zCt s (2 ^ s.1)), .ref rg, .int (nI m1), .int (nI m2), .int (z_b (zTg s m1 m2 (2 ^ s.1))), q_u, q_u, q_u, q_u, q_u, q_u, q_u, q_u, q_u] [] _
    refine q_forget 12 ?_
    change q_W _ _ _ _ _ _ _ _ 1587 [.ref 0, .ref 100, .int (nI t), q_u, q_u, q_u, q_u, q_u, q_u, q_u, q_u, q_u, q_u, .int (zRj s), .int (x_mo_stableCount_9 (zAl s) s.1 (2 ^ s.1) 0 0), .int (nI (z_cnt (zPb s) (2 ^ s.1))), .int (x_ex_sizeOfGreatestAdmissible_10 s.1 s.2.2.2.2.2.1 (2 ^ s.1) 0 0), .int (zCd s (2 ^ s.1)), .int (zCt s (2 ^ s.1)), .ref rg, .int (nI m1), .int (nI m2), .int (z_b (zTg s m1 m2 (2 ^ s.1))), q_u, q_u, q_u, q_u, q_u, q_u, q_u, q_u, q_u] [] _
    refine q_forget 13 ?_
    change q_W _ _ _ _ _ _ _ _ 1587 [.ref 0, .ref 100, .int (nI t), q_u, q_u, q_u, q_u, q_u, q_u, q_u, q_u, q_u, q_u, q_u, .int (x_mo_stableCount_9 (zAl s) s.1 (2 ^ s.1) 0 0), .int (nI (z_cnt (zPb s) (2 ^ s.1))), .int (x_ex_sizeOfGreatestAdmissible_10 s.1 s.2.2.2.2.2.1 (2 ^ s.1) 0 0), .int (zCd s (2 ^ s.1)), .int (zCt s (2 ^ s.1)), .ref rg, .int (nI m1), .int (nI m2), .int (z_b (zTg s m1 m2 (2 ^ s.1))), q_u, q_u, q_u, q_u, q_u, q_u, q_u, q_u, q_u] [] _
    refine q_forget 14 ?_
    change q_W _ _ _ _ _ _ _ _ 1587 [.ref 0, .ref 100, .int (nI t), q_u, q_u, q_u, q_u, q_u, q_u, q_u, q_u, q_u, q_u, q_u, q_u, .int (nI (z_cnt (zPb s) (2 ^ s.1))), .int (x_ex_sizeOfGreatestAdmissible_10 s.1 s.2.2.2.2.2.1 (2 ^ s.1) 0 0), .int (zCd s (2 ^ s.1)), .int (zCt s (2 ^ s.1)), .ref rg, .int (nI m1), .int (nI m2), .int (z_b (zTg s m1 m2 (2 ^ s.1))), q_u, q_u, q_u, q_u, q_u, q_u, q_u, q_u, q_u] [] _
    refine q_forget 15 ?_
    change q_W _ _ _ _ _ _ _ _ 1587 [.ref 0, .ref 100, .int (nI t), q_u, q_u, q_u, q_u, q_u, q_u, q_u, q_u, q_u, q_u, q_u, q_u, q_u, .int (x_ex_sizeOfGreatestAdmissible_10 s.1 s.2.2.2.2.2.1 (2 ^ s.1) 0 0), .int (zCd s (2 ^ s.1)), .int (zCt s (2 ^ s.1)), .ref rg, .int (nI m1), .int (nI m2), .int (z_b (zTg s m1 m2 (2 ^ s.1))), q_u, q_u, q_u, q_u, q_u, q_u, q_u, q_u, q_u] [] _
    refine q_forget 16 ?_
    change q_W _ _ _ _ _ _ _ _ 1587 [.ref 0, .ref 100, .int (nI t), q_u, q_u, q_u, q_u, q_u, q_u, q_u, q_u, q_u, q_u, q_u, q_u, q_u, q_u, .int (zCd s (2 ^ s.1)), .int (zCt s (2 ^ s.1)), .ref rg, .int (nI m1), .int (nI m2), .int (z_b (zTg s m1 m2 (2 ^ s.1))), q_u, q_u, q_u, q_u, q_u, q_u, q_u, q_u, q_u] [] _
    refine q_forget 17 ?_
    change q_W _ _ _ _ _ _ _ _ 1587 [.ref 0, .ref 100, .int (nI t), q_u, q_u, q_u, q_u, q_u, q_u, q_u, q_u, q_u, q_u, q_u, q_u, q_u, q_u, q_u, .int (zCt s (2 ^ s.1)), .ref rg, .int (nI m1), .int (nI m2), .int (z_b (zTg s m1 m2 (2 ^ s.1))), q_u, q_u, q_u, q_u, q_u, q_u, q_u, q_u, q_u] [] _
    refine q_forget 18 ?_
    change q_W _ _ _ _ _ _ _ _ 1587 [.ref 0, .ref 100, .int (nI t), q_u, q_u, q_u, q_u, q_u, q_u, q_u, q_u, q_u, q_u, q_u, q_u, q_u, q_u, q_u, q_u, .ref rg, .int (nI m1), .int (nI m2), .int (z_b (zTg s m1 m2 (2 ^ s.1))), q_u, q_u, q_u, q_u, q_u, q_u, q_u, q_u, q_u] [] _
    refine q_forget 19 ?_
    change q_W _ _ _ _ _ _ _ _ 1587 [.ref 0, .ref 100, .int (nI t), q_u, q_u, q_u, q_u, q_u, q_u, q_u, q_u, q_u, q_u, q_u, q_u, q_u, q_u, q_u, q_u, q_u, .int (nI m1), .int (nI m2), .int (z_b (zTg s m1 m2 (2 ^ s.1))), q_u, q_u, q_u, q_u, q_u, q_u, q_u, q_u, q_u] [] _
    refine q_forget 20 ?_
    change q_W _ _ _ _ _ _ _ _ 1587 [.ref 0, .ref 100, .int (nI t), q_u, q_u, q_u, q_u, q_u, q_u, q_u, q_u, q_u, q_u, q_u, q_u, q_u, q_u, q_u, q_u, q_u, q_u, .int (nI m2), .int (z_b (zTg s m1 m2 (2 ^ s.1))), q_u, q_u, q_u, q_u, q_u, q_u, q_u, q_u, q_u] [] _
    refine q_forget 21 ?_
    change q_W _ _ _ _ _ _ _ _ 1587 [.ref 0, .ref 100, .int (nI t), q_u, q_u, q_u, q_u, q_u, q_u, q_u, q_u, q_u, q_u, q_u, q_u, q_u, q_u, q_u, q_u, q_u, q_u, q_u, .int (z_b (zTg s m1 m2 (2 ^ s.1))), q_u, q_u, q_u, q_u, q_u, q_u, q_u, q_u, q_u] [] _
    refine q_forget 22 ?_
    change q_W _ _ _ _ _ _ _ _ 1587 [.ref 0, .ref 100, .int (nI t), q_u, q_u, q_u, q_u, q_u, q_u, q_u, q_u, q_u, q_u, q_u, q_u, q_u, q_u, q_u, q_u, q_u, q_u, q_u, q_u, q_u, q_u, q_u, q_u, q_u, q_u, q_u, q_u, q_u] [] _
    change q_W _ _ _ _ _ _ _ _ 1587 [.ref 0, .ref 100, .int (nI t), q_u, q_u, q_u, q_u, q_u, q_u, q_u, q_u, q_u, q_u, q_u, q_u, q_u, q_u, q_u, q_u, q_u, q_u, q_u, q_u, q_u, q_u, q_u, q_u, q_u, q_u, q_u, q_u, q_u] [] _
    exact K _ _ h19 s19 _ _ X19 V19 na19 nb19 (by omega) (by omega)
  refine q_if_ne 1499 dL_law_1485 (by decide) (fun b => ?_) (fun b => ?_)
  · exact J h12 X12 A_12
  · have hac2 := g_acyc V (by simpa using z_b0n b)
    obtain ⟨q1, q2⟩ := hac2
    refine q_iload dL_law_1488 rfl ?_
    refine q_if_gt 1574 dL_law_1490 (by decide) (fun b2 => absurd b2 (by rw [q1, Nat.sub_self]; decide)) (fun b2 => ?_)
    refine q_iload dL_law_1493 rfl ?_
    refine q_iconst (v := 1) dL_law_1495 rfl ?_
    refine q_icmp_ne 1574 dL_law_1496 (by decide) (fun b3 => absurd (by rw [q2]; rfl) b3) (fun b3 => ?_)
    exact J h12 X12 A_12
end FINAL
