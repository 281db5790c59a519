/-- two lines that are one -/
def z_tx (L : Nat) (fl ln : Nat → Int32) : Prop := ∀ j, j < L → ∃ m, m < 128 ∧ ln j = nI m ∧ fl j = nI m
theorem z_tx0 (fl ln : Nat → Int32) : z_tx 0 fl ln := fun j hj => absurd hj (Nat.not_lt_zero j)
theorem z_tx.push {L : Nat} {fl ln : Nat → Int32} (h : z_tx L fl ln) {x y : Int32} (hx : ∃ c, c < 128 ∧ x = nI c ∧ y = nI c) : z_tx (L + 1) (upd fl L x) (upd ln L y) := fun j hj => by
  obtain ⟨c, hc, rfl, rfl⟩ := hx
  by_cases e : j = L
  · subst e
    rw [upd_eq, upd_eq]
    exact ⟨c, hc, rfl, rfl⟩
  · rw [upd_ne e, upd_ne e]
    exact h j (by omega)
theorem z_tx.num {L v : Nat} {fl ln : Nat → Int32} (h : z_tx L fl ln) : z_tx (L + sb_dg v) (x_num fl L v) (x_wr ln L v) := fun j hj => by
  unfold x_num x_wr
  by_cases e : j < L
  · rw [if_pos e, if_neg (by omega)]
    exact h j e
  · rw [if_neg e, if_pos (by omega)]
    obtain ⟨c, hc, ec⟩ := z_dec_lat v (j - L)
    exact ⟨c, hc, ec, ec⟩
theorem z_ch (c : Nat) (hc : c < 128) : ∃ m, m < 128 ∧ nI c = nI m ∧ z_c16 (nI c) = nI m := by
  refine ⟨c, hc, rfl, ?_⟩
  have h : ∀ c, c < 128 → z_c16 (nI c) = nI c := by decide +kernel
  exact h c hc
theorem z_chl (ac rj : Int32) (j : Nat) : ∃ m, m < 128 ∧ x_mo_labelOf ac rj j = nI m ∧ z_c16 (x_mo_labelOf ac rj j) = nI m := by
  unfold x_mo_labelOf
  split
  · exact z_ch 97 (by omega)
  · split
    · exact z_ch 114 (by omega)
    · exact z_ch 117 (by omega)
theorem z_J.line {t : Nat} {hs : Bool} {se : Int32} {sf : Int32} {s : ZS} {s1 : ZS} {nx : Nat} {kp : Nat} {rw : Nat → ZS} {ic : Nat} {fi : Nat → Int32} {lc : Nat} {fl : Nat → Int32} {al : Nat → Int32} {cg : Nat} {sv : Bool} {ad : Nat → Int32} {ln : Nat → Int32} {lz : Nat} {ip : Nat → Int32} {ty : Nat} {ea : Int32} {fa : Int32} (J : z_J t hs se sf s s1 nx kp rw ic fi lc fl al cg sv ad ln lz ip ty ea fa) {lc' lz' : Nat} {fl' ln' : Nat → Int32} (e : lc' = lz') (h : lz' ≤ 160) (tx : z_tx lz' fl' ln') : z_J t hs se sf s s1 nx kp rw ic fi lc' fl' al cg sv ad ln' lz' ip ty ea fa := by
  obtain ⟨a1, a2, a3, a4, a5, a6, a7, a8, a9, a10, a11, a12, a13, a14, r⟩ := J
  exact ⟨a1, a2, a3, a4, a5, a6, a7, a8, a9, a10, a11, e, h, tx, r⟩
theorem z_num {t : Nat} {s : ZS} (W : z_wf t s) (ht : t < 512) {j : Nat} (hj : j < s.1) : ∃ m : Nat, m < 10000 ∧ s.2.1 j = nI m := by
  obtain ⟨-, -, ⟨k, k1, -, k3⟩, -⟩ := W
  obtain ⟨m, hm, e⟩ := k3 j hj
  exact ⟨m, by omega, e⟩
theorem z_fa93 {t : Nat} {al : Nat → Int32} {s : ZS} (W : z_wf t s) (R : z_R al 0 s) (ht : t < 512) {xid : Int32} {v : Nat} (hv : v < s.1) (a : x_pl s.1 al xid = v + 1) : ∀ r k fl ln L, k + r = s.1 → z_tx L fl ln → (x_am_formatArgument_93 s.2.1 s.2.2.2.2.2.1 v r k fl L).2 = (x_mo_formatArgument_81 al s.1 xid r k ln L).2 ∧ (x_mo_formatArgument_81 al s.1 xid r k ln L).2 ≤ L + 5 * r ∧ z_tx (x_mo_formatArgument_81 al s.1 xid r k ln L).2 (x_am_formatArgument_93 s.2.1 s.2.2.2.2.2.1 v r k fl L).1 (x_mo_formatArgument_81 al s.1 xid r k ln L).1 := by
  have h8 := W.1
  intro r
  induction r with
  | zero =>
    intro k fl ln L _ h
    exact ⟨rfl, Nat.le_refl _, h⟩
  | succ r ih =>
    intro k fl ln L hk h
    simp only [x_am_formatArgument_93, x_mo_formatArgument_81]
    rw [a, Nat.add_sub_cancel, z_att W R hv, z_has_bt _ (by omega), R.id (by omega : k < s.1)]
    have z := z_bit1 (s.2.2.2.2.2.1 v) (j := k) (by omega)
    have hd := z_dg4 (z_num W ht (by omega : k < s.1))
    by_cases e : z_bi (s.2.2.2.2.2.1 v) k = true
    · rw [if_pos e, if_pos (z.mpr e)]
      obtain ⟨i1, i2, i3⟩ := ih (k + 1) _ _ (L + 1 + sb_dg (s.2.1 k).toNatClampNeg) (by omega) ((h.push (z_ch 60 (by omega))).num (v := (s.2.1 k).toNatClampNeg))
      exact ⟨i1, Nat.le_trans i2 (by omega), i3⟩
    · rw [if_neg e, if_neg (fun c => e (z.mp c))]
      obtain ⟨i1, i2, i3⟩ := ih (k + 1) fl ln L (by omega) h
      exact ⟨i1, Nat.le_trans i2 (by omega), i3⟩
theorem p_formatArgument : z_P_formatArgument := by
  intro t hs se sf s s1 nx kp rw ic fi lc fl al cg sv ad ln lz ip ty ea fa ca cj co ac rj ro xid ht J
  have W := J.1
  have R := J.2.1
  have h8 := W.1
  have hid := fun j (hj : j < s.1) => z_num W ht hj
  have hwt : ∀ j, j < s.1 → ∃ m : Nat, m < 10000 ∧ s.2.2.1 j = nI m := fun j hj => by
    obtain ⟨m, -, h2, e⟩ := W.2.2.2.2.1 j hj
    exact ⟨m, by omega, e⟩
  have hst : ∀ j, j < s.1 → ∃ m : Nat, m < 10000 ∧ x_st_strength s.2.2.1 s.2.2.2.1 j = nI m := fun j hj => by
    obtain ⟨m, hm, e⟩ := z_strB W hj
    exact ⟨m, by omega, e⟩
  refine ⟨fun v e => ?_, hid, hwt, hst, fun e => ?_, fun j hj => by rw [R.id hj]; exact hid j hj, fun j hj => by rw [R.wt hj]; exact hwt j hj, fun j hj => by rw [z_str R hj]; exact hst j hj, ?_⟩
  · rcases z_find R xid with ⟨-, -, c⟩ | ⟨v', hv, -, -, -, d⟩
    · rw [c] at e
      cases e
    · rw [← d]
      exact hid v' hv
  · rcases z_find R xid with ⟨a, -, -⟩ | ⟨v', hv, -, -, -, d⟩
    · rw [a] at e
      cases e
    · rw [← d]
      exact hid v' hv
  · rcases z_find R xid with ⟨a, b, c⟩ | ⟨v, hv, a, b, c, d⟩
    · have eM : x_mo_formatArgument al ac rj ro ln lz s.1 xid = (0, 1, ac, rj, ro, ln, lz) := by
        unfold x_mo_formatArgument
        rw [a]
        rfl
      have eA : x_am_formatArgument s.1 s.2.1 s.2.2.1 s.2.2.2.1 s.2.2.2.2.2.1 ca cj co lc fl xid = (.inr "java/util/NoSuchElementException", ca, cj, co, lc, fl) := by
        unfold x_am_formatArgument
        rw [c]
      rw [eM, eA]
      exact ⟨Or.inl ⟨rfl, rfl⟩, J.up⟩
    · obtain ⟨l1, l2, -, -⟩ := z_labels W R co ro
      have hx : ∃ m : Nat, m < 10000 ∧ xid = nI m := d ▸ hid v hv
      have g1 := z_dg4 hx
      have g2 := z_dg4 (hst v hv)
      have g3 := z_dg4 (hwt v hv)
      have T1 := (z_tx0 fl ln).num (v := xid.toNatClampNeg)
      have T2 := (T1.push (z_ch 40 (by omega))).num (v := (x_st_strength s.2.2.1 s.2.2.2.1 v).toNatClampNeg)
      have T3 := (T2.push (z_ch 47 (by omega))).num (v := (s.2.2.1 v).toNatClampNeg)
      have T4 := (T3.push (z_ch 41 (by omega))).push (z_chl (x_mo_labelsAll al s.1 ro).1 (x_mo_labelsAll al s.1 ro).2.1 v)
      have F := z_fa93 W R ht hv a s.1 0 _ _ _ (by omega) T4
      have eM : x_mo_formatArgument al ac rj ro ln lz s.1 xid = (nI (x_mo_formatArgument_81 al s.1 xid s.1 0 (upd (upd (x_wr (upd (x_wr (upd (x_wr ln 0 ((xid).toNatClampNeg)) (0 + sb_dg ((xid).toNatClampNeg)) (z_c16 (nI 40))) (0 + sb_dg ((xid).toNatClampNeg) + 1) ((x_st_strength s.2.2.1 s.2.2.2.1 v).toNatClampNeg)) (0 + sb_dg ((xid).toNatClampNeg) + 1 + sb_dg ((x_st_strength s.2.2.1 s.2.2.2.1 v).toNatClampNeg)) (z_c16 (nI 47))) (0 + sb_dg ((xid).toNatClampNeg) + 1 + sb_dg ((x_st_strength s.2.2.1 s.2.2.2.1 v).toNatClampNeg) + 1) ((s.2.2.1 v).toNatClampNeg)) (0 + sb_dg ((xid).toNatClampNeg) + 1 + sb_dg ((x_st_strength s.2.2.1 s.2.2.2.1 v).toNatClampNeg) + 1 + sb_dg ((s.2.2.1 v).toNatClampNeg)) (z_c16 (nI 41))) (0 + sb_dg ((xid).toNatClampNeg) + 1 + sb_dg ((x_st_strength s.2.2.1 s.2.2.2.1 v).toNatClampNeg) + 1 + sb_dg ((s.2.2.1 v).toNatClampNeg) + 1) (z_c16 (x_mo_labelOf (x_mo_labelsAll al s.1 ro).1 (x_mo_labelsAll al s.1 ro).2.1 v))) (0 + sb_dg ((xid).toNatClampNeg) + 1 + sb_dg ((x_st_strength s.2.2.1 s.2.2.2.1 v).toNatClampNeg) + 1 + sb_dg ((s.2.2.1 v).toNatClampNeg) + 1 + 1)).2, 0, (x_mo_labelsAll al s.1 ro).1, (x_mo_labelsAll al s.1 ro).2.1, (x_mo_labelsAll al s.1 ro).2.2, x_mo_formatArgument_81 al s.1 xid s.1 0 (upd (upd (x_wr (upd (x_wr (upd (x_wr ln 0 ((xid).toNatClampNeg)) (0 + sb_dg ((xid).toNatClampNeg)) (z_c16 (nI 40))) (0 + sb_dg ((xid).toNatClampNeg) + 1) ((x_st_strength s.2.2.1 s.2.2.2.1 v).toNatClampNeg)) (0 + sb_dg ((xid).toNatClampNeg) + 1 + sb_dg ((x_st_strength s.2.2.1 s.2.2.2.1 v).toNatClampNeg)) (z_c16 (nI 47))) (0 + sb_dg ((xid).toNatClampNeg) + 1 + sb_dg ((x_st_strength s.2.2.1 s.2.2.2.1 v).toNatClampNeg) + 1) ((s.2.2.1 v).toNatClampNeg)) (0 + sb_dg ((xid).toNatClampNeg) + 1 + sb_dg ((x_st_strength s.2.2.1 s.2.2.2.1 v).toNatClampNeg) + 1 + sb_dg ((s.2.2.1 v).toNatClampNeg)) (z_c16 (nI 41))) (0 + sb_dg ((xid).toNatClampNeg) + 1 + sb_dg ((x_st_strength s.2.2.1 s.2.2.2.1 v).toNatClampNeg) + 1 + sb_dg ((s.2.2.1 v).toNatClampNeg) + 1) (z_c16 (x_mo_labelOf (x_mo_labelsAll al s.1 ro).1 (x_mo_labelsAll al s.1 ro).2.1 v))) (0 + sb_dg ((xid).toNatClampNeg) + 1 + sb_dg ((x_st_strength s.2.2.1 s.2.2.2.1 v).toNatClampNeg) + 1 + sb_dg ((s.2.2.1 v).toNatClampNeg) + 1 + 1)) := by
        unfold x_mo_formatArgument
        rw [b, a, Nat.add_sub_cancel, z_str R hv, R.wt hv]
        rfl
      have eA : x_am_formatArgument s.1 s.2.1 s.2.2.1 s.2.2.2.1 s.2.2.2.2.2.1 ca cj co lc fl xid = (.inl (nI (x_am_formatArgument_93 s.2.1 s.2.2.2.2.2.1 v s.1 0 (upd (upd (x_num (upd (x_num (upd (x_num fl 0 ((xid).toNatClampNeg)) (0 + sb_dg ((xid).toNatClampNeg)) (nI 40)) (0 + sb_dg ((xid).toNatClampNeg) + 1) ((x_st_strength s.2.2.1 s.2.2.2.1 v).toNatClampNeg)) (0 + sb_dg ((xid).toNatClampNeg) + 1 + sb_dg ((x_st_strength s.2.2.1 s.2.2.2.1 v).toNatClampNeg)) (nI 47)) (0 + sb_dg ((xid).toNatClampNeg) + 1 + sb_dg ((x_st_strength s.2.2.1 s.2.2.2.1 v).toNatClampNeg) + 1) ((s.2.2.1 v).toNatClampNeg)) (0 + sb_dg ((xid).toNatClampNeg) + 1 + sb_dg ((x_st_strength s.2.2.1 s.2.2.2.1 v).toNatClampNeg) + 1 + sb_dg ((s.2.2.1 v).toNatClampNeg)) (nI 41)) (0 + sb_dg ((xid).toNatClampNeg) + 1 + sb_dg ((x_st_strength s.2.2.1 s.2.2.2.1 v).toNatClampNeg) + 1 + sb_dg ((s.2.2.1 v).toNatClampNeg) + 1) (x_mo_labelOf (x_mo_labelsAll al s.1 ro).1 (x_mo_labelsAll al s.1 ro).2.1 v)) (0 + sb_dg ((xid).toNatClampNeg) + 1 + sb_dg ((x_st_strength s.2.2.1 s.2.2.2.1 v).toNatClampNeg) + 1 + sb_dg ((s.2.2.1 v).toNatClampNeg) + 1 + 1)).2), (x_mo_labelsAll al s.1 ro).1, (x_mo_labelsAll al s.1 ro).2.1, (x_lb_give co s.1 s.2.2.2.2.2.1).2.2, (x_am_formatArgument_93 s.2.1 s.2.2.2.2.2.1 v s.1 0 (upd (upd (x_num (upd (x_num (upd (x_num fl 0 ((xid).toNatClampNeg)) (0 + sb_dg ((xid).toNatClampNeg)) (nI 40)) (0 + sb_dg ((xid).toNatClampNeg) + 1) ((x_st_strength s.2.2.1 s.2.2.2.1 v).toNatClampNeg)) (0 + sb_dg ((xid).toNatClampNeg) + 1 + sb_dg ((x_st_strength s.2.2.1 s.2.2.2.1 v).toNatClampNeg)) (nI 47)) (0 + sb_dg ((xid).toNatClampNeg) + 1 + sb_dg ((x_st_strength s.2.2.1 s.2.2.2.1 v).toNatClampNeg) + 1) ((s.2.2.1 v).toNatClampNeg)) (0 + sb_dg ((xid).toNatClampNeg) + 1 + sb_dg ((x_st_strength s.2.2.1 s.2.2.2.1 v).toNatClampNeg) + 1 + sb_dg ((s.2.2.1 v).toNatClampNeg)) (nI 41)) (0 + sb_dg ((xid).toNatClampNeg) + 1 + sb_dg ((x_st_strength s.2.2.1 s.2.2.2.1 v).toNatClampNeg) + 1 + sb_dg ((s.2.2.1 v).toNatClampNeg) + 1) (x_mo_labelOf (x_mo_labelsAll al s.1 ro).1 (x_mo_labelsAll al s.1 ro).2.1 v)) (0 + sb_dg ((xid).toNatClampNeg) + 1 + sb_dg ((x_st_strength s.2.2.1 s.2.2.2.1 v).toNatClampNeg) + 1 + sb_dg ((s.2.2.1 v).toNatClampNeg) + 1 + 1)).2, (x_am_formatArgument_93 s.2.1 s.2.2.2.2.2.1 v s.1 0 (upd (upd (x_num (upd (x_num (upd (x_num fl 0 ((xid).toNatClampNeg)) (0 + sb_dg ((xid).toNatClampNeg)) (nI 40)) (0 + sb_dg ((xid).toNatClampNeg) + 1) ((x_st_strength s.2.2.1 s.2.2.2.1 v).toNatClampNeg)) (0 + sb_dg ((xid).toNatClampNeg) + 1 + sb_dg ((x_st_strength s.2.2.1 s.2.2.2.1 v).toNatClampNeg)) (nI 47)) (0 + sb_dg ((xid).toNatClampNeg) + 1 + sb_dg ((x_st_strength s.2.2.1 s.2.2.2.1 v).toNatClampNeg) + 1) ((s.2.2.1 v).toNatClampNeg)) (0 + sb_dg ((xid).toNatClampNeg) + 1 + sb_dg ((x_st_strength s.2.2.1 s.2.2.2.1 v).toNatClampNeg) + 1 + sb_dg ((s.2.2.1 v).toNatClampNeg)) (nI 41)) (0 + sb_dg ((xid).toNatClampNeg) + 1 + sb_dg ((x_st_strength s.2.2.1 s.2.2.2.1 v).toNatClampNeg) + 1 + sb_dg ((s.2.2.1 v).toNatClampNeg) + 1) (x_mo_labelOf (x_mo_labelsAll al s.1 ro).1 (x_mo_labelsAll al s.1 ro).2.1 v)) (0 + sb_dg ((xid).toNatClampNeg) + 1 + sb_dg ((x_st_strength s.2.2.1 s.2.2.2.1 v).toNatClampNeg) + 1 + sb_dg ((s.2.2.1 v).toNatClampNeg) + 1 + 1)).1) := by
        unfold x_am_formatArgument
        rw [c]
        dsimp only
        rw [← z_letq _ _ (by omega : v < 32), ← l1, ← l2]
        rfl
      rw [eM, eA]
      obtain ⟨f1, f2, f3⟩ := F
      refine ⟨Or.inr ⟨rfl, ?_⟩, J.up.line f1 (Nat.le_trans f2 (by omega)) f3⟩
      exact congrArg (fun x => q_oI (.inl (nI x))) f1
theorem z_fd22 {t : Nat} {al : Nat → Int32} {s : ZS} (W : z_wf t s) (R : z_R al 0 s) (ht : t < 512) : ∀ r k fl ln L, k + r = s.2.2.2.2.2.2.2.2.1 → z_tx L fl ln → (x_am_formatDialogue_22 s.2.2.2.2.2.2.2.2.2.1 r k fl L).2 = (x_mo_formatDialogue_30 al r k ln L).2 ∧ (x_mo_formatDialogue_30 al r k ln L).2 ≤ L + 6 * r ∧ z_tx (x_mo_formatDialogue_30 al r k ln L).2 (x_am_formatDialogue_22 s.2.2.2.2.2.2.2.2.2.1 r k fl L).1 (x_mo_formatDialogue_30 al r k ln L).1 := by
  intro r
  induction r with
  | zero =>
    intro k fl ln L _ h
    exact ⟨rfl, Nat.le_refl _, h⟩
  | succ r ih =>
    intro k fl ln L hk h
    simp only [x_am_formatDialogue_22, x_mo_formatDialogue_30]
    rw [R.mv (by omega : k < s.2.2.2.2.2.2.2.2.1), z_prop]
    have hd : sb_dg (s.2.2.2.2.2.2.2.2.2.1 k).toNatClampNeg ≤ 4 := by
      obtain ⟨j, hj, e⟩ := W.2.2.2.2.2.2.2.2.1 k (by omega)
      rw [e]
      exact z_dg4 (z_num W ht hj)
    have next : ∀ fl' ln' L', z_tx L' fl' ln' → L' ≤ L + 2 → (x_am_formatDialogue_22 s.2.2.2.2.2.2.2.2.2.1 r (k + 1) (x_num fl' L' (s.2.2.2.2.2.2.2.2.2.1 k).toNatClampNeg) (L' + sb_dg (s.2.2.2.2.2.2.2.2.2.1 k).toNatClampNeg)).2 = (x_mo_formatDialogue_30 al r (k + 1) (x_wr ln' L' (s.2.2.2.2.2.2.2.2.2.1 k).toNatClampNeg) (L' + sb_dg (s.2.2.2.2.2.2.2.2.2.1 k).toNatClampNeg)).2 ∧ (x_mo_formatDialogue_30 al r (k + 1) (x_wr ln' L' (s.2.2.2.2.2.2.2.2.2.1 k).toNatClampNeg) (L' + sb_dg (s.2.2.2.2.2.2.2.2.2.1 k).toNatClampNeg)).2 ≤ L + 6 * (r + 1) ∧ z_tx (x_mo_formatDialogue_30 al r (k + 1) (x_wr ln' L' (s.2.2.2.2.2.2.2.2.2.1 k).toNatClampNeg) (L' + sb_dg (s.2.2.2.2.2.2.2.2.2.1 k).toNatClampNeg)).2 (x_am_formatDialogue_22 s.2.2.2.2.2.2.2.2.2.1 r (k + 1) (x_num fl' L' (s.2.2.2.2.2.2.2.2.2.1 k).toNatClampNeg) (L' + sb_dg (s.2.2.2.2.2.2.2.2.2.1 k).toNatClampNeg)).1 (x_mo_formatDialogue_30 al r (k + 1) (x_wr ln' L' (s.2.2.2.2.2.2.2.2.2.1 k).toNatClampNeg) (L' + sb_dg (s.2.2.2.2.2.2.2.2.2.1 k).toNatClampNeg)).1 := by
      intro fl' ln' L' h' hL
      obtain ⟨i1, i2, i3⟩ := ih (k + 1) _ _ (L' + sb_dg (s.2.2.2.2.2.2.2.2.2.1 k).toNatClampNeg) (by omega) (h'.num (v := (s.2.2.2.2.2.2.2.2.2.1 k).toNatClampNeg))
      exact ⟨i1, Nat.le_trans i2 (by omega), i3⟩
    by_cases e0 : k ≤ 0
    · rw [if_pos e0, if_pos e0]
      by_cases e : k % 2 = 0
      · rw [decide_eq_true e, if_pos rfl, if_pos e]
        exact next _ _ (L + 1) (h.push (z_ch 112 (by omega))) (by omega)
      · rw [decide_eq_false e, if_neg Bool.false_ne_true, if_neg e]
        exact next _ _ (L + 1) (h.push (z_ch 111 (by omega))) (by omega)
    · rw [if_neg e0, if_neg e0]
      by_cases e : k % 2 = 0
      · rw [decide_eq_true e, if_pos rfl, if_pos e]
        exact next _ _ (L + 2) ((h.push (z_ch 32 (by omega))).push (z_ch 112 (by omega))) (by omega)
      · rw [decide_eq_false e, if_neg Bool.false_ne_true, if_neg e]
        exact next _ _ (L + 2) ((h.push (z_ch 32 (by omega))).push (z_ch 111 (by omega))) (by omega)
theorem p_formatDialogue : z_P_formatDialogue := by
  intro t hs se sf s s1 nx kp rw ic fi lc fl al cg sv ad ln lz ip ty ea fa ht J
  have W := J.1
  have R := J.2.1
  have h12 := W.2.1
  have hmv : ∀ j, j < s.2.2.2.2.2.2.2.2.1 → ∃ m : Nat, m < 10000 ∧ s.2.2.2.2.2.2.2.2.2.1 j = nI m := fun p hp => by
    obtain ⟨j, hj, e⟩ := W.2.2.2.2.2.2.2.2.1 p hp
    rw [e]
    exact z_num W ht hj
  refine ⟨hmv, fun j hj => by rw [R.mv hj]; exact hmv j hj, ?_⟩
  by_cases hm : s.2.2.2.2.2.2.2.2.1 = 0
  · have eM : x_mo_formatDialogue al ln lz s.2.2.2.2.2.2.2.2.1 = (0, 1, ln, lz) := by
      unfold x_mo_formatDialogue
      rw [if_pos (by omega)]
    have eA : x_am_formatDialogue s.2.2.2.2.2.2.2.2.1 s.2.2.2.2.2.2.2.2.2.1 lc fl = (.inr "java/util/NoSuchElementException", lc, fl) := by
      unfold x_am_formatDialogue x_dl_mustBeHeld
      rw [if_pos hm]
    rw [eM, eA]
    exact ⟨Or.inl ⟨rfl, rfl⟩, J.up⟩
  · have F := z_fd22 W R ht s.2.2.2.2.2.2.2.2.1 0 fl ln 0 (by omega) (z_tx0 fl ln)
    have eM : x_mo_formatDialogue al ln lz s.2.2.2.2.2.2.2.2.1 = (nI (x_mo_formatDialogue_30 al s.2.2.2.2.2.2.2.2.1 0 ln 0).2, 0, (x_mo_formatDialogue_30 al s.2.2.2.2.2.2.2.2.1 0 ln 0).1, (x_mo_formatDialogue_30 al s.2.2.2.2.2.2.2.2.1 0 ln 0).2) := by
      unfold x_mo_formatDialogue
      rw [if_neg (by omega)]
    have eA : x_am_formatDialogue s.2.2.2.2.2.2.2.2.1 s.2.2.2.2.2.2.2.2.2.1 lc fl = (.inl (nI (x_am_formatDialogue_22 s.2.2.2.2.2.2.2.2.2.1 s.2.2.2.2.2.2.2.2.1 0 fl 0).2), (x_am_formatDialogue_22 s.2.2.2.2.2.2.2.2.2.1 s.2.2.2.2.2.2.2.2.1 0 fl 0).2, (x_am_formatDialogue_22 s.2.2.2.2.2.2.2.2.2.1 s.2.2.2.2.2.2.2.2.1 0 fl 0).1) := by
      unfold x_am_formatDialogue x_dl_mustBeHeld
      rw [if_neg hm]
    obtain ⟨f1, f2, f3⟩ := F
    rw [eM, eA]
    refine ⟨Or.inr ⟨rfl, ?_⟩, J.up.line f1 (Nat.le_trans f2 (by omega)) f3⟩
    exact congrArg (fun x => q_oI (.inl (nI x))) f1
