/-- what all calls owe -/
def z_PA : Prop :=
  z_P_addArgument ∧ z_P_removeArgument ∧ z_P_addAttack ∧ z_P_removeAttack ∧ z_P_setWeight ∧ z_P_renew ∧ z_P_startDialogue ∧ z_P_move ∧ z_P_takeBack ∧ z_P_endDialogue ∧ z_P_pass ∧ z_P_day ∧ z_P_argumentCount ∧ z_P_idAt ∧ z_P_weightOf ∧ z_P_ageOf ∧ z_P_strengthOf ∧ z_P_attackCount ∧ z_P_hasAttack ∧ z_P_isSuccessful ∧ z_P_successfulCount ∧ z_P_attackerCount ∧ z_P_attackerAt ∧ z_P_status ∧ z_P_roundOf ∧ z_P_isAcceptedByGame ∧ z_P_canOpponentWin ∧ z_P_acceptedCount ∧ z_P_undecidedCount ∧ z_P_stableCount ∧ z_P_stableCountByLabels ∧ z_P_preferredCount ∧ z_P_greatestAdmissible ∧ z_P_isCredible ∧ z_P_isCertain ∧ z_P_canStandTogether ∧ z_P_hasCycle ∧ z_P_hasCycleBySearch ∧ z_P_daysUntilChange ∧ z_P_statusAfter ∧ z_P_argumentByStrength ∧ z_P_isDialogueHeld ∧ z_P_moveCount ∧ z_P_moveAt ∧ z_P_canMove ∧ z_P_dialogueTotal ∧ z_P_proponentWins ∧ z_P_brokenOffTotal ∧ z_P_meanStrength ∧ z_P_acceptedShare ∧ z_P_isConsistent ∧ z_P_formatArgument ∧ z_P_formatDialogue ∧ z_P_lineChar ∧ z_P_append ∧ z_P_run ∧ z_P_errorPosition ∧ z_P_failedCommand ∧ z_P_undoableCount ∧ z_P_undo ∧ z_P_save ∧ z_P_restore
theorem z_and63 (x : Int32) : ∃ m, m < 64 ∧ x &&& 63 = nI m := by
  have h : (x &&& 63).toBitVec = x.toBitVec &&& 63#32 := rfl
  have h1 : (x.toBitVec &&& 63#32).toNat < 64 := by
    rw [BitVec.toNat_and]
    exact Nat.lt_of_le_of_lt Nat.and_le_right (by decide)
  refine ⟨(x.toBitVec &&& 63#32).toNat, h1, ?_⟩
  apply Int32.toBitVec_inj.mp
  rw [h]
  apply BitVec.eq_of_toNat_eq
  show _ = (BitVec.ofNat 32 _).toNat
  rw [BitVec.toNat_ofNat]
  omega
theorem z_wf.up {t : Nat} {s : ZS} (w : z_wf t s) : z_wf (t + 1) s := z_wfB.mono w (by omega)
theorem z_J.up {t : Nat} {hs : Bool} {se : Int32} {sf : Int32} {s : ZS} {s1 : ZS} {nx : Nat} {kp : Nat} {rw : Nat → ZS} {ic : Nat} {fi : Nat → Int32} {lc : Nat} {fl : Nat → Int32} {al : Nat → Int32} {cg : Nat} {sv : Bool} {ad : Nat → Int32} {ln : Nat → Int32} {lz : Nat} {ip : Nat → Int32} {ty : Nat} {ea : Int32} {fa : Int32} (J : z_J t hs se sf s s1 nx kp rw ic fi lc fl al cg sv ad ln lz ip ty ea fa) : z_J (t + 1) hs se sf s s1 nx kp rw ic fi lc fl al cg sv ad ln lz ip ty ea fa := by
  obtain ⟨a, b, c, d, e, e1, e2, f, r⟩ := J
  exact ⟨a.up, b, c, fun q => ⟨(d q).1.up, (d q).2⟩, e, e1, e2, fun i hi => ⟨(f i hi).1.up, (f i hi).2⟩, r⟩
theorem z_I_up {t : Nat} {h : q_H} (hI : z_I t h) : z_I (t + 1) h := by
  obtain ⟨hs, se, sf, s, s1, nx, kp, rw, ic, fi, lc, fl, al, cg, sv, ad, ln, lz, ip, ty, ea, fa, a, b, c, d, J⟩ := hI
  exact ⟨hs, se, sf, s, s1, nx, kp, rw, ic, fi, lc, fl, al, cg, sv, ad, ln, lz, ip, ty, ea, fa, a, b, c, d, J.up⟩
set_option maxRecDepth 100000 in
set_option maxHeartbeats 8000000 in
theorem l_switch {g : q_G} {h : q_H} {d mc ms kc ks i t : Nat} {Q : q_O → q_H → Prop} (P : z_PA) (hI : z_I t h) (ht : t < 512) (hi : i + 2 < g.2.2.2.2.2.1) (hN : g.2.2.2.2.2.1 < 2 ^ 31) (ho : q_isold g 0) (hd : 26 ≤ d) (hkc : kc + 66 ≤ mc) (hks : ks + 10588 ≤ ms) (K : ∀ h2, z_I (t + 1) h2 → q_W g mL_law d mc ms Q (kc + 66) (ks + 10588) 2985 [.ref 0, .ref 100, .ref 215, .ref 223, .ref 224, .int (nI i), q_u, q_u, q_u] [] h2) : ∀ m, m < 64 → q_W g mL_law d mc ms Q kc ks 44 [.ref 0, .ref 100, .ref 215, .ref 223, .ref 224, .int (nI i), q_u, q_u, q_u] [.int (nI m)] h := by
  obtain ⟨P0, P1, P2, P3, P4, P5, P6, P7, P8, P9, P10, P11, P12, P13, P14, P15, P16, P17, P18, P19, P20, P21, P22, P23, P24, P25, P26, P27, P28, P29, P30, P31, P32, P33, P34, P35, P36, P37, P38, P39, P40, P41, P42, P43, P44, P45, P46, P47, P48, P49, P50, P51, P52, P53, P54, P55, P56, P57, P58, P59, P60, P61⟩ := P
  intro m hm
  match m, hm with
  | 0, _ =>
    refine q_tableIn (off := 264) 308 dL_law_44 (by decide) (by decide) (by decide +kernel) (by decide) ?_
    exact l_c_addArgument P0 hI ht hi hN ho hd hkc hks K
  | 1, _ =>
    refine q_tableIn (off := 320) 364 dL_law_44 (by decide) (by decide) (by decide +kernel) (by decide) ?_
    exact l_c_removeArgument P1 hI ht hi hN ho hd hkc hks K
  | 2, _ =>
    refine q_tableIn (off := 376) 420 dL_law_44 (by decide) (by decide) (by decide +kernel) (by decide) ?_
    exact l_c_addAttack P2 hI ht hi hN ho hd hkc hks K
  | 3, _ =>
    refine q_tableIn (off := 444) 488 dL_law_44 (by decide) (by decide) (by decide +kernel) (by decide) ?_
    exact l_c_removeAttack P3 hI ht hi hN ho hd hkc hks K
  | 4, _ =>
    refine q_tableIn (off := 512) 556 dL_law_44 (by decide) (by decide) (by decide +kernel) (by decide) ?_
    exact l_c_setWeight P4 hI ht hi hN ho hd hkc hks K
  | 5, _ =>
    refine q_tableIn (off := 580) 624 dL_law_44 (by decide) (by decide) (by decide +kernel) (by decide) ?_
    exact l_c_renew P5 hI ht hi hN ho hd hkc hks K
  | 6, _ =>
    refine q_tableIn (off := 636) 680 dL_law_44 (by decide) (by decide) (by decide +kernel) (by decide) ?_
    exact l_c_startDialogue P6 hI ht hi hN ho hd hkc hks K
  | 7, _ =>
    refine q_tableIn (off := 692) 736 dL_law_44 (by decide) (by decide) (by decide +kernel) (by decide) ?_
    exact l_c_move P7 hI ht hi hN ho hd hkc hks K
  | 8, _ =>
    refine q_tableIn (off := 748) 792 dL_law_44 (by decide) (by decide) (by decide +kernel) (by decide) ?_
    exact l_c_takeBack P8 hI ht hi hN ho hd hkc hks K
  | 9, _ =>
    refine q_tableIn (off := 792) 836 dL_law_44 (by decide) (by decide) (by decide +kernel) (by decide) ?_
    exact l_c_endDialogue P9 hI ht hi hN ho hd hkc hks K
  | 10, _ =>
    refine q_tableIn (off := 836) 880 dL_law_44 (by decide) (by decide) (by decide +kernel) (by decide) ?_
    exact l_c_pass P10 hI ht hi hN ho hd hkc hks K
  | 11, _ =>
    refine q_tableIn (off := 892) 936 dL_law_44 (by decide) (by decide) (by decide +kernel) (by decide) ?_
    exact l_c_day P11 hI ht hi hN ho hd hkc hks K
  | 12, _ =>
    refine q_tableIn (off := 905) 949 dL_law_44 (by decide) (by decide) (by decide +kernel) (by decide) ?_
    exact l_c_argumentCount P12 hI ht hi hN ho hd hkc hks K
  | 13, _ =>
    refine q_tableIn (off := 918) 962 dL_law_44 (by decide) (by decide) (by decide +kernel) (by decide) ?_
    exact l_c_idAt P13 hI ht hi hN ho hd hkc hks K
  | 14, _ =>
    refine q_tableIn (off := 974) 1018 dL_law_44 (by decide) (by decide) (by decide +kernel) (by decide) ?_
    exact l_c_weightOf P14 hI ht hi hN ho hd hkc hks K
  | 15, _ =>
    refine q_tableIn (off := 1030) 1074 dL_law_44 (by decide) (by decide) (by decide +kernel) (by decide) ?_
    exact l_c_ageOf P15 hI ht hi hN ho hd hkc hks K
  | 16, _ =>
    refine q_tableIn (off := 1086) 1130 dL_law_44 (by decide) (by decide) (by decide +kernel) (by decide) ?_
    exact l_c_strengthOf P16 hI ht hi hN ho hd hkc hks K
  | 17, _ =>
    refine q_tableIn (off := 1142) 1186 dL_law_44 (by decide) (by decide) (by decide +kernel) (by decide) ?_
    exact l_c_attackCount P17 hI ht hi hN ho hd hkc hks K
  | 18, _ =>
    refine q_tableIn (off := 1155) 1199 dL_law_44 (by decide) (by decide) (by decide +kernel) (by decide) ?_
    exact l_c_hasAttack P18 hI ht hi hN ho hd hkc hks K
  | 19, _ =>
    refine q_tableIn (off := 1230) 1274 dL_law_44 (by decide) (by decide) (by decide +kernel) (by decide) ?_
    exact l_c_isSuccessful P19 hI ht hi hN ho hd hkc hks K
  | 20, _ =>
    refine q_tableIn (off := 1305) 1349 dL_law_44 (by decide) (by decide) (by decide +kernel) (by decide) ?_
    exact l_c_successfulCount P20 hI ht hi hN ho hd hkc hks K
  | 21, _ =>
    refine q_tableIn (off := 1318) 1362 dL_law_44 (by decide) (by decide) (by decide +kernel) (by decide) ?_
    exact l_c_attackerCount P21 hI ht hi hN ho hd hkc hks K
  | 22, _ =>
    refine q_tableIn (off := 1374) 1418 dL_law_44 (by decide) (by decide) (by decide +kernel) (by decide) ?_
    exact l_c_attackerAt P22 hI ht hi hN ho hd hkc hks K
  | 23, _ =>
    refine q_tableIn (off := 1442) 1486 dL_law_44 (by decide) (by decide) (by decide +kernel) (by decide) ?_
    exact l_c_status P23 hI ht hi hN ho hd hkc hks K
  | 24, _ =>
    refine q_tableIn (off := 1498) 1542 dL_law_44 (by decide) (by decide) (by decide +kernel) (by decide) ?_
    exact l_c_roundOf P24 hI ht hi hN ho hd hkc hks K
  | 25, _ =>
    refine q_tableIn (off := 1554) 1598 dL_law_44 (by decide) (by decide) (by decide +kernel) (by decide) ?_
    exact l_c_isAcceptedByGame P25 hI ht hi hN ho hd hkc hks K
  | 26, _ =>
    refine q_tableIn (off := 1617) 1661 dL_law_44 (by decide) (by decide) (by decide +kernel) (by decide) ?_
    exact l_c_canOpponentWin P26 hI ht hi hN ho hd hkc hks K
  | 27, _ =>
    refine q_tableIn (off := 1680) 1724 dL_law_44 (by decide) (by decide) (by decide +kernel) (by decide) ?_
    exact l_c_acceptedCount P27 hI ht hi hN ho hd hkc hks K
  | 28, _ =>
    refine q_tableIn (off := 1693) 1737 dL_law_44 (by decide) (by decide) (by decide +kernel) (by decide) ?_
    exact l_c_undecidedCount P28 hI ht hi hN ho hd hkc hks K
  | 29, _ =>
    refine q_tableIn (off := 1706) 1750 dL_law_44 (by decide) (by decide) (by decide +kernel) (by decide) ?_
    exact l_c_stableCount P29 hI ht hi hN ho hd hkc hks K
  | 30, _ =>
    refine q_tableIn (off := 1719) 1763 dL_law_44 (by decide) (by decide) (by decide +kernel) (by decide) ?_
    exact l_c_stableCountByLabels P30 hI ht hi hN ho hd hkc hks K
  | 31, _ =>
    refine q_tableIn (off := 1732) 1776 dL_law_44 (by decide) (by decide) (by decide +kernel) (by decide) ?_
    exact l_c_preferredCount P31 hI ht hi hN ho hd hkc hks K
  | 32, _ =>
    refine q_tableIn (off := 1745) 1789 dL_law_44 (by decide) (by decide) (by decide +kernel) (by decide) ?_
    exact l_c_greatestAdmissible P32 hI ht hi hN ho hd hkc hks K
  | 33, _ =>
    refine q_tableIn (off := 1758) 1802 dL_law_44 (by decide) (by decide) (by decide +kernel) (by decide) ?_
    exact l_c_isCredible P33 hI ht hi hN ho hd hkc hks K
  | 34, _ =>
    refine q_tableIn (off := 1821) 1865 dL_law_44 (by decide) (by decide) (by decide +kernel) (by decide) ?_
    exact l_c_isCertain P34 hI ht hi hN ho hd hkc hks K
  | 35, _ =>
    refine q_tableIn (off := 1884) 1928 dL_law_44 (by decide) (by decide) (by decide +kernel) (by decide) ?_
    exact l_c_canStandTogether P35 hI ht hi hN ho hd hkc hks K
  | 36, _ =>
    refine q_tableIn (off := 1959) 2003 dL_law_44 (by decide) (by decide) (by decide +kernel) (by decide) ?_
    exact l_c_hasCycle P36 hI ht hi hN ho hd hkc hks K
  | 37, _ =>
    refine q_tableIn (off := 1972) 2016 dL_law_44 (by decide) (by decide) (by decide +kernel) (by decide) ?_
    exact l_c_hasCycleBySearch P37 hI ht hi hN ho hd hkc hks K
  | 38, _ =>
    refine q_tableIn (off := 1985) 2029 dL_law_44 (by decide) (by decide) (by decide +kernel) (by decide) ?_
    exact l_c_daysUntilChange P38 hI ht hi hN ho hd hkc hks K
  | 39, _ =>
    refine q_tableIn (off := 2029) 2073 dL_law_44 (by decide) (by decide) (by decide +kernel) (by decide) ?_
    exact l_c_statusAfter P39 hI ht hi hN ho hd hkc hks K
  | 40, _ =>
    refine q_tableIn (off := 2097) 2141 dL_law_44 (by decide) (by decide) (by decide +kernel) (by decide) ?_
    exact l_c_argumentByStrength P40 hI ht hi hN ho hd hkc hks K
  | 41, _ =>
    refine q_tableIn (off := 2153) 2197 dL_law_44 (by decide) (by decide) (by decide +kernel) (by decide) ?_
    exact l_c_isDialogueHeld P41 hI ht hi hN ho hd hkc hks K
  | 42, _ =>
    refine q_tableIn (off := 2166) 2210 dL_law_44 (by decide) (by decide) (by decide +kernel) (by decide) ?_
    exact l_c_moveCount P42 hI ht hi hN ho hd hkc hks K
  | 43, _ =>
    refine q_tableIn (off := 2179) 2223 dL_law_44 (by decide) (by decide) (by decide +kernel) (by decide) ?_
    exact l_c_moveAt P43 hI ht hi hN ho hd hkc hks K
  | 44, _ =>
    refine q_tableIn (off := 2235) 2279 dL_law_44 (by decide) (by decide) (by decide +kernel) (by decide) ?_
    exact l_c_canMove P44 hI ht hi hN ho hd hkc hks K
  | 45, _ =>
    refine q_tableIn (off := 2298) 2342 dL_law_44 (by decide) (by decide) (by decide +kernel) (by decide) ?_
    exact l_c_dialogueTotal P45 hI ht hi hN ho hd hkc hks K
  | 46, _ =>
    refine q_tableIn (off := 2311) 2355 dL_law_44 (by decide) (by decide) (by decide +kernel) (by decide) ?_
    exact l_c_proponentWins P46 hI ht hi hN ho hd hkc hks K
  | 47, _ =>
    refine q_tableIn (off := 2324) 2368 dL_law_44 (by decide) (by decide) (by decide +kernel) (by decide) ?_
    exact l_c_brokenOffTotal P47 hI ht hi hN ho hd hkc hks K
  | 48, _ =>
    refine q_tableIn (off := 2337) 2381 dL_law_44 (by decide) (by decide) (by decide +kernel) (by decide) ?_
    exact l_c_meanStrength P48 hI ht hi hN ho hd hkc hks K
  | 49, _ =>
    refine q_tableIn (off := 2402) 2446 dL_law_44 (by decide) (by decide) (by decide +kernel) (by decide) ?_
    exact l_c_acceptedShare P49 hI ht hi hN ho hd hkc hks K
  | 50, _ =>
    refine q_tableIn (off := 2468) 2512 dL_law_44 (by decide) (by decide) (by decide +kernel) (by decide) ?_
    exact l_c_isConsistent P50 hI ht hi hN ho hd hkc hks K
  | 51, _ =>
    refine q_tableIn (off := 2481) 2525 dL_law_44 (by decide) (by decide) (by decide +kernel) (by decide) ?_
    exact l_c_formatArgument P51 hI ht hi hN ho hd hkc hks K
  | 52, _ =>
    refine q_tableIn (off := 2537) 2581 dL_law_44 (by decide) (by decide) (by decide +kernel) (by decide) ?_
    exact l_c_formatDialogue P52 hI ht hi hN ho hd hkc hks K
  | 53, _ =>
    refine q_tableIn (off := 2581) 2625 dL_law_44 (by decide) (by decide) (by decide +kernel) (by decide) ?_
    exact l_c_lineChar P53 hI ht hi hN ho hd hkc hks K
  | 54, _ =>
    refine q_tableIn (off := 2637) 2681 dL_law_44 (by decide) (by decide) (by decide +kernel) (by decide) ?_
    exact l_c_append P54 hI ht hi hN ho hd hkc hks K
  | 55, _ =>
    refine q_tableIn (off := 2695) 2739 dL_law_44 (by decide) (by decide) (by decide +kernel) (by decide) ?_
    exact l_c_run P55 hI ht hi hN ho hd hkc hks K
  | 56, _ =>
    refine q_tableIn (off := 2739) 2783 dL_law_44 (by decide) (by decide) (by decide +kernel) (by decide) ?_
    exact l_c_errorPosition P56 hI ht hi hN ho hd hkc hks K
  | 57, _ =>
    refine q_tableIn (off := 2783) 2827 dL_law_44 (by decide) (by decide) (by decide +kernel) (by decide) ?_
    exact l_c_failedCommand P57 hI ht hi hN ho hd hkc hks K
  | 58, _ =>
    refine q_tableIn (off := 2827) 2871 dL_law_44 (by decide) (by decide) (by decide +kernel) (by decide) ?_
    exact l_c_undoableCount P58 hI ht hi hN ho hd hkc hks K
  | 59, _ =>
    refine q_tableIn (off := 2840) 2884 dL_law_44 (by decide) (by decide) (by decide +kernel) (by decide) ?_
    exact l_c_undo P59 hI ht hi hN ho hd hkc hks K
  | 60, _ =>
    refine q_tableIn (off := 2884) 2928 dL_law_44 (by decide) (by decide) (by decide +kernel) (by decide) ?_
    exact l_c_save P60 hI ht hi hN ho hd hkc hks K
  | 61, _ =>
    refine q_tableIn (off := 2897) 2941 dL_law_44 (by decide) (by decide) (by decide +kernel) (by decide) ?_
    exact l_c_restore P61 hI ht hi hN ho hd hkc hks K
  | 62, _ =>
    refine q_tableOut 2985 dL_law_44 (Or.inr (by decide)) (by decide) ?_
    exact q_widen (by omega) (by omega) (K h (z_I_up hI))
  | 63, _ =>
    refine q_tableOut 2985 dL_law_44 (Or.inr (by decide)) (by decide) ?_
    exact q_widen (by omega) (by omega) (K h (z_I_up hI))
  | m + 64, hm => exact absurd hm (by omega)
theorem z_head {N i : Nat} (hN : N < 2 ^ 30) (hi : i < 2 ^ 30) : nI N - nI 3 < nI i ↔ N < i + 3 := by
  by_cases h3 : 3 ≤ N
  · rw [pk_sub h3, nI_ltI (by omega) (by omega)]
    omega
  · have hN3 : N = 0 ∨ N = 1 ∨ N = 2 := by omega
    have h0 : (0 : Int32) ≤ nI i := by
      have := (nI_leI (a := 0) (b := i) (by omega) (by omega)).mpr (Nat.zero_le _)
      exact this
    constructor
    · intro _
      omega
    · intro _
      refine Int32.lt_of_lt_of_le ?_ h0
      rcases hN3 with rfl | rfl | rfl <;> decide
set_option maxRecDepth 100000 in
set_option maxHeartbeats 8000000 in
theorem l_loop {g : q_G} {d mc ms : Nat} {Q : q_O → q_H → Prop} (P : z_PA) (hN : g.2.2.2.2.2.1 ≤ 1536) (ho : q_isold g 0) (hd : 26 ≤ d) (hmc : 125 + 66 * 512 ≤ mc) (hms : 3260 + 10588 * 512 ≤ ms) (hQ : ∀ h, Q (.inl (some (.int 1))) h) : ∀ r t, t + r = 512 → ∀ h, z_I t h → q_W g mL_law d mc ms Q (125 + 66 * t) (3260 + 10588 * t) 28 [.ref 0, .ref 100, .ref 215, .ref 223, .ref 224, .int (nI (3 * t)), q_u, q_u, q_u] [] h := by
  intro r
  induction r with
  | zero =>
    intro t ht h hI
    refine q_iload dL_law_28 rfl ?_
    refine q_aload_nO ho dL_law_30 rfl ?_
    refine q_tlen (by decide) dL_law_31 (rfl : q_ar g 0 = _) ?_
    refine q_iconst (v := 3) dL_law_32 rfl ?_
    refine q_isub dL_law_33 ?_
    refine q_icmp_gt 2991 dL_law_34 (by decide) (fun _ => ?_) (fun b => absurd ((z_head (N := g.2.2.2.2.2.1) (i := 3 * t) (by omega) (by omega)).mpr (by omega)) b)
    refine q_iconst (v := 1) dL_law_2991 rfl ?_
    exact q_ireturn dL_law_2992 rfl rfl (by omega) (by omega) (hQ h)
  | succ r ih =>
    intro t ht h hI
    refine q_iload dL_law_28 rfl ?_
    refine q_aload_nO ho dL_law_30 rfl ?_
    refine q_tlen (by decide) dL_law_31 (rfl : q_ar g 0 = _) ?_
    refine q_iconst (v := 3) dL_law_32 rfl ?_
    refine q_isub dL_law_33 ?_
    refine q_icmp_gt 2991 dL_law_34 (by decide) (fun _ => ?_) (fun b => ?_)
    · refine q_iconst (v := 1) dL_law_2991 rfl ?_
      exact q_ireturn dL_law_2992 rfl rfl (by omega) (by omega) (hQ h)
    · have hi : 3 * t + 2 < g.2.2.2.2.2.1 := by
        have hq : ¬ g.2.2.2.2.2.1 < 3 * t + 3 := fun c => b ((z_head (N := g.2.2.2.2.2.1) (i := 3 * t) (by omega) (by omega)).mpr c)
        omega
      refine q_aload_nO ho dL_law_37 rfl ?_
      refine q_iload dL_law_38 rfl ?_
      refine q_taldIN (by decide) dL_law_40 (rfl : q_ar g 0 = _) (by omega) (by omega) ?_
      refine q_bipush (v := 63) dL_law_41 rfl ?_
      change q_W _ _ _ _ _ _ _ _ _ _ [.int 63, .int (g.2.2.2.2.2.2 (3 * t))] _
      refine q_iand dL_law_43 ?_
      obtain ⟨m, hm, em⟩ := z_and63 (g.2.2.2.2.2.2 (3 * t))
      rw [em]
      refine l_switch P (i := 3 * t) (t := t) hI (by omega) hi (by omega) ho hd (by omega) (by omega) (fun h2 hI2 => ?_) m hm
      refine q_iinc (x := nI (3 * t)) (v := nI (3 * (t + 1))) dL_law_2985 rfl (nI_add _ 3) rfl ?_
      refine q_goto 28 dL_law_2988 (by decide) ?_
      exact ih (t + 1) (by omega) h2 hI2