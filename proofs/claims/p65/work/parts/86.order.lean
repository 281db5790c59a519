theorem z_agree13 {B : Nat} {al : Nat → Int32} {s : ZS} (W : z_wfB B s) (R : z_R al 0 s) (ro : Nat → Int32) {ac rj : Int32} {co : Nat → Int32} (hac : ac = (x_mo_labelsAll al s.1 ro).1) : ∀ r k lost won, k + r = s.1 → ∃ l w, x_am_labelsAgreeWithGame_13 s.2.2.2.2.2.1 ac rj co r k lost won = .inl (l, w) := by
  have h8 := W.1
  intro r
  induction r with
  | zero =>
    intro k lost won _
    exact ⟨lost, won, rfl⟩
  | succ r ih =>
    intro k lost won hk
    have h := z_game W R ro won lost (by omega : k < s.1)
    have u : x_am_labelsAgreeWithGame_13 s.2.2.2.2.2.1 ac rj co (r + 1) k lost won = (match x_ga_isWonByProponent won lost s.2.2.2.2.2.1 k with | (v3, y3_won, y3_lost) => (if (z_has ac k) = v3 then x_am_labelsAgreeWithGame_13 s.2.2.2.2.2.1 ac rj co r (k + 1) y3_lost y3_won else .inr (false, ac, rj, co, y3_won, y3_lost))) := rfl
    rw [u]
    generalize x_ga_isWonByProponent won lost s.2.2.2.2.2.1 k = p at h
    obtain ⟨p1, p2, p3⟩ := p
    dsimp only at h ⊢
    rw [z_has_bt _ (by omega), hac, ← h, if_pos rfl]
    rw [← hac]
    exact ih (k + 1) p3 p2 (by omega)
theorem z_d10 : ∀ a, a < 10 → ∀ b, b < 10 → ((0 : Int32) < nI a - nI b ↔ b < a) ∧ (nI a - nI b = 0 ↔ a = b) ∧ (nI a = nI b ↔ a = b) ∧ (nI a ≤ nI b ↔ a ≤ b) := by decide +kernel
theorem z_bcB {B : Nat} {s : ZS} (W : z_wfB B s) {j : Nat} (hj : j < s.1) : ∃ m, m < 10 ∧ z_bc (s.2.2.2.2.2.1 j) = nI m := by
  obtain ⟨m, hm, e⟩ := W.att8 hj
  refine ⟨z_cn (nI m) 8, ?_, by rw [e]; exact z_bccn m hm⟩
  have := z_cn_le (nI m) 8
  omega
theorem z_ahead {B : Nat} {al : Nat → Int32} {s : ZS} (W : z_wfB B s) (R : z_R al 0 s) {i j : Nat} (hi : i < s.1) (hj : j < s.1) : x_mo_isAhead al s.1 i j = (!decide (i = j) && x_st_isBefore s.2.2.1 s.2.2.2.1 s.2.2.2.2.2.1 i j) := by
  obtain ⟨a, ha, ea⟩ := z_strB W hi
  obtain ⟨b, hb, eb⟩ := z_strB W hj
  obtain ⟨c, hc, ec⟩ := z_bcB W hi
  obtain ⟨d, hd, ed⟩ := z_bcB W hj
  unfold x_mo_isAhead x_st_isBefore
  rw [z_str R hi, z_str R hj, z_atksz W R hi, z_atksz W R hj, ea, eb, ec, ed]
  obtain ⟨f1, f2, f3, f4⟩ := z_d10 a (by omega) b (by omega)
  obtain ⟨g1, g2, -, -⟩ := z_d10 d hd c hc
  obtain ⟨-, -, g3, -⟩ := z_d10 c hc d hd
  obtain ⟨-, -, -, g4⟩ := z_d10 d hd c hc
  simp only [f1, f2, f3, f4, g1, g2, g3, g4]
  by_cases q1 : a = b
  · subst q1
    rw [if_neg (Nat.lt_irrefl a), if_pos rfl, if_pos rfl]
    by_cases q2 : d = c
    · subst q2
      rw [if_neg (Nat.lt_irrefl d), if_pos rfl, if_pos rfl]
      by_cases q3 : j ≤ i
      · rw [if_pos q3]
        simp
      · rw [if_neg q3, decide_eq_false (by omega : ¬ i = j)]
        rfl
    · have hne : ¬ i = j := fun z => by
        subst z
        rw [ec] at ed
        obtain ⟨-, -, h, -⟩ := z_d10 c hc d hd
        exact q2 (h.mp ed).symm
      rw [decide_eq_false hne]
      by_cases q3 : c < d
      · rw [if_pos q3, if_neg (by omega : ¬ c = d), if_neg (by omega : ¬ d ≤ c)]
        rfl
      · rw [if_neg q3, if_neg q2, if_neg (by omega : ¬ c = d), if_pos (by omega : d ≤ c)]
        rfl
  · rw [if_neg q1, if_neg q1]
    have hne : ¬ i = j := fun z => by
      subst z
      rw [ea] at eb
      obtain ⟨-, -, h, -⟩ := z_d10 a (by omega) b (by omega)
      exact q1 (h.mp eb)
    rw [decide_eq_false hne]
    by_cases q3 : b < a
    · rw [if_pos q3, if_neg (by omega)]
      rfl
    · rw [if_neg q3, if_pos (by omega)]
      rfl
theorem z_rank4 {B : Nat} {al : Nat → Int32} {s : ZS} (W : z_wfB B s) (R : z_R al 0 s) {j : Nat} (hj : j < s.1) : ∀ r k c, k + r = s.1 → x_st_rank_4 s.2.2.1 s.2.2.2.1 s.2.2.2.2.2.1 j r k c = x_mo_argumentByStrength_17 al s.1 j r k c := by
  intro r
  induction r with
  | zero =>
    intro k c _
    rfl
  | succ r ih =>
    intro k c hk
    simp only [x_st_rank_4, x_mo_argumentByStrength_17]
    rw [z_ahead W R (by omega : k < s.1) hj, Int32.add_zero, ih _ _ (by omega), ih _ _ (by omega)]
    by_cases e : k = j
    · rw [if_pos e, decide_eq_true e, if_neg (by simp)]
    · rw [if_neg e, decide_eq_false e]
      cases x_st_isBefore s.2.2.1 s.2.2.2.1 s.2.2.2.2.2.1 k j <;> rfl
theorem z_abs2 {B : Nat} {al : Nat → Int32} {s : ZS} (W : z_wfB B s) (R : z_R al 0 s) {xr : Int32} : ∀ r k th, k + r = s.1 → (x_am_argumentByStrength_2 s.1 s.2.1 s.2.2.1 s.2.2.2.1 s.2.2.2.2.2.1 xr r k = .inl () ∧ ∃ t, x_mo_argumentByStrength_2 al s.1 xr r k th = .inl t) ∨ ∃ w, x_am_argumentByStrength_2 s.1 s.2.1 s.2.2.1 s.2.2.2.1 s.2.2.2.2.2.1 xr r k = .inr (.inl w) ∧ x_mo_argumentByStrength_2 al s.1 xr r k th = .inr (w, 0) := by
  intro r
  induction r with
  | zero =>
    intro k th _
    exact Or.inl ⟨rfl, th, rfl⟩
  | succ r ih =>
    intro k th hk
    simp only [x_am_argumentByStrength_2, x_mo_argumentByStrength_2]
    have e : x_st_rank s.1 s.2.2.1 s.2.2.2.1 s.2.2.2.2.2.1 k = x_mo_argumentByStrength_17 al s.1 k s.1 0 0 := z_rank4 W R (by omega : k < s.1) s.1 0 0 (by omega)
    rw [e, R.id (by omega : k < s.1)]
    split
    · exact Or.inr ⟨_, rfl, rfl⟩
    · exact ih (k + 1) 1 (by omega)
theorem z_pl0 {al : Nat → Int32} {xid : Int32} : ∀ r k, x_pl_2 al xid r k = 0 → ∀ j, k ≤ j → j < k + r → al (7 + 3 * j + 0) ≠ xid := by
  intro r
  induction r with
  | zero =>
    intro k _ j h1 h2
    omega
  | succ r ih =>
    intro k h j h1 h2
    have e2 : x_pl_2 al xid (r + 1) k = if al (7 + 3 * k + 0) = xid then k + 1 else x_pl_2 al xid r (k + 1) := rfl
    rw [e2] at h
    by_cases e : al (7 + 3 * k + 0) = xid
    · rw [if_pos e] at h
      omega
    · rw [if_neg e] at h
      by_cases q : j = k
      · subst q
        exact e
      · exact ih (k + 1) h j (by omega) (by omega)
/-- an id that is there is found -/
theorem z_there {al : Nat → Int32} {s : ZS} (R : z_R al 0 s) {xid : Int32} (h : ∃ j, j < s.1 ∧ s.2.1 j = xid) : ∃ v, v < s.1 ∧ x_pl s.1 al xid = v + 1 ∧ x_th s.1 al xid = true ∧ x_st_slotOfKnown s.1 s.2.1 xid = .inl v ∧ s.2.1 v = xid := by
  rcases z_find R xid with ⟨-, b, -⟩ | z
  · obtain ⟨j, hj, e⟩ := h
    exact absurd (by rw [R.id hj]; exact e) (z_pl0 s.1 0 b j (Nat.zero_le j) (by omega))
  · exact z
theorem z_prop (k : Nat) : x_dl_isProponents k = decide (k % 2 = 0) := by
  unfold x_dl_isProponents
  by_cases e : k % 2 = 0
  · rw [if_pos e, decide_eq_true e]
  · rw [if_neg e, decide_eq_false e]
theorem z_mbp2 {mv : Nat → Int32} {xid : Int32} : ∀ r k, (x_dl_isMovedByProponent_2 mv xid r k = .inl () ∧ ∀ i, k ≤ i → i < k + r → i % 2 = 0 → mv i ≠ xid) ∨ (x_dl_isMovedByProponent_2 mv xid r k = .inr true ∧ ∃ i, k ≤ i ∧ i < k + r ∧ i % 2 = 0 ∧ mv i = xid) := by
  intro r
  induction r with
  | zero =>
    intro k
    exact Or.inl ⟨rfl, fun i h1 h2 => by omega⟩
  | succ r ih =>
    intro k
    simp only [x_dl_isMovedByProponent_2]
    rw [z_prop]
    have more : (k % 2 = 0 → mv k ≠ xid) → (x_dl_isMovedByProponent_2 mv xid r (k + 1) = .inl () ∧ ∀ i, k ≤ i → i < k + (r + 1) → i % 2 = 0 → mv i ≠ xid) ∨ (x_dl_isMovedByProponent_2 mv xid r (k + 1) = .inr true ∧ ∃ i, k ≤ i ∧ i < k + (r + 1) ∧ i % 2 = 0 ∧ mv i = xid) := by
      intro h0
      rcases ih (k + 1) with ⟨a, b⟩ | ⟨a, i, h1, h2, h3⟩
      · refine Or.inl ⟨a, fun i h1 h2 h3 => ?_⟩
        by_cases e : i = k
        · subst e
          exact h0 h3
        · exact b i (by omega) (by omega) h3
      · exact Or.inr ⟨a, i, by omega, by omega, h3⟩
    by_cases e : k % 2 = 0
    · rw [decide_eq_true e, if_pos rfl]
      by_cases e2 : mv k = xid
      · rw [if_pos e2]
        exact Or.inr ⟨rfl, k, by omega, by omega, e, e2⟩
      · rw [if_neg e2]
        exact more (fun _ => e2)
    · rw [decide_eq_false e, if_neg Bool.false_ne_true]
      exact more (fun c => absurd c e)
theorem z_al47 {al : Nat → Int32} {mn : Nat} {xid : Int32} (hm : mn % 2 = 0) : ∀ r k c, mn ≤ k + r → k % 2 = 0 → (x_mo_isAllowed_47 al mn xid r k c = true ↔ c = true ∧ ∀ i, k ≤ i → i < mn → i % 2 = 0 → al (39 + i) ≠ xid) := by
  intro r
  induction r with
  | zero =>
    intro k c hk _
    simp only [x_mo_isAllowed_47]
    exact ⟨fun h => ⟨h, fun i h1 h2 => by omega⟩, fun h => h.1⟩
  | succ r ih =>
    intro k c hk h2
    simp only [x_mo_isAllowed_47]
    by_cases e : mn ≤ k
    · rw [if_pos e]
      exact ⟨fun h => ⟨h, fun i h1 h2 => by omega⟩, fun h => h.1⟩
    · rw [if_neg e, if_pos hm]
      by_cases e2 : al (39 + k) = xid
      · rw [if_pos e2, ih (k + 2) _ (by omega) (by omega), Bool.and_false]
        exact ⟨fun h => absurd h.1 Bool.false_ne_true, fun h => absurd e2 (h.2 k (by omega) (by omega) h2)⟩
      · rw [if_neg e2, ih (k + 2) _ (by omega) (by omega), Bool.and_true]
        constructor
        · rintro ⟨h1, h3⟩
          refine ⟨h1, fun i i1 i2 i3 => ?_⟩
          by_cases q : i = k
          · subst q
            exact e2
          · exact h3 i (by omega) i2 i3
        · rintro ⟨h1, h3⟩
          exact ⟨h1, fun i i1 i2 i3 => h3 i (by omega) i2 i3⟩
theorem z_al47o {al : Nat → Int32} {mn : Nat} {xid : Int32} (hm : mn % 2 = 1) : ∀ r k c, x_mo_isAllowed_47 al mn xid r k c = c := by
  intro r
  cases r with
  | zero =>
    intro k c
    rfl
  | succ r =>
    intro k c
    simp only [x_mo_isAllowed_47]
    rw [if_neg (by omega : ¬ mn % 2 = 0)]
    split <;> rfl
/-- the last move's argument is there -/
theorem z_last {B : Nat} {al : Nat → Int32} {s : ZS} (W : z_wfB B s) (R : z_R al 0 s) (hm : s.2.2.2.2.2.2.2.2.1 ≠ 0) : al (39 + s.2.2.2.2.2.2.2.2.1 - 1) = s.2.2.2.2.2.2.2.2.2.1 (s.2.2.2.2.2.2.2.2.1 - 1) ∧ ∃ v, v < s.1 ∧ x_pl s.1 al (al (39 + s.2.2.2.2.2.2.2.2.1 - 1)) = v + 1 ∧ x_st_slotOfKnown s.1 s.2.1 (s.2.2.2.2.2.2.2.2.2.1 (s.2.2.2.2.2.2.2.2.1 - 1)) = .inl v := by
  have e : al (39 + s.2.2.2.2.2.2.2.2.1 - 1) = s.2.2.2.2.2.2.2.2.2.1 (s.2.2.2.2.2.2.2.2.1 - 1) := by
    rw [← R.mv (by omega : s.2.2.2.2.2.2.2.2.1 - 1 < s.2.2.2.2.2.2.2.2.1)]
    congr 1
    omega
  refine ⟨e, ?_⟩
  obtain ⟨j, hj, ej⟩ := W.2.2.2.2.2.2.2.2.1 (s.2.2.2.2.2.2.2.2.1 - 1) (by omega)
  obtain ⟨v, hv, a, b, c, d⟩ := z_there R (xid := s.2.2.2.2.2.2.2.2.2.1 (s.2.2.2.2.2.2.2.2.1 - 1)) ⟨j, hj, ej.symm⟩
  exact ⟨v, hv, by rw [e]; exact a, c⟩
theorem z_allow {B : Nat} {al : Nat → Int32} {s : ZS} (W : z_wfB B s) (R : z_R al 0 s) (hm : s.2.2.2.2.2.2.2.2.1 ≠ 0) {xid : Int32} {v : Nat} (hv : v < s.1) (a : x_pl s.1 al xid = v + 1) (d : s.2.1 v = xid) : x_st_isAllowed s.1 s.2.1 s.2.2.2.2.2.1 s.2.2.2.2.2.2.2.2.1 s.2.2.2.2.2.2.2.2.2.1 v = .inl (x_mo_isAllowed al s.1 s.2.2.2.2.2.2.2.2.1 xid) := by
  have h8 := W.1
  obtain ⟨-, l, hl, el, ec⟩ := z_last W R hm
  unfold x_st_isAllowed x_mo_isAllowed x_dl_last
  rw [if_neg (by omega), ec, el, a, Nat.add_sub_cancel, Nat.add_sub_cancel, z_att W R hl, d]
  dsimp only
  rw [z_has_bt _ (by omega)]
  have z0 := z_bit0 (s.2.2.2.2.2.1 l) (j := v) (by omega)
  cases q : z_bi (s.2.2.2.2.2.1 l) v with
  | false =>
    rw [if_neg Bool.false_ne_true, if_pos (z0.mpr q)]
  | true =>
    have z9 : ¬ (s.2.2.2.2.2.1 l >>> (nI v &&& 31)) &&& 1 = 0 := fun c => by
      rw [z0.mp c] at q
      cases q
    rw [if_pos rfl, if_neg z9, z_prop]
    by_cases e : s.2.2.2.2.2.2.2.2.1 % 2 = 0
    · rw [decide_eq_true e, if_pos rfl]
      have hA := z_al47 (al := al) (xid := xid) e s.2.2.2.2.2.2.2.2.1 0 true (by omega) rfl
      unfold x_dl_isMovedByProponent
      rcases z_mbp2 (mv := s.2.2.2.2.2.2.2.2.2.1) (xid := xid) s.2.2.2.2.2.2.2.2.1 0 with ⟨f1, f2⟩ | ⟨f1, i, i1, i2, i3, i4⟩
      · rw [f1, hA.mpr ⟨rfl, fun i _ h2 h3 => by rw [R.mv h2]; exact f2 i (Nat.zero_le i) (by omega) h3⟩]
        rfl
      · have hF : x_mo_isAllowed_47 al s.2.2.2.2.2.2.2.2.1 xid s.2.2.2.2.2.2.2.2.1 0 true = false := by
          cases q2 : x_mo_isAllowed_47 al s.2.2.2.2.2.2.2.2.1 xid s.2.2.2.2.2.2.2.2.1 0 true with
          | false => rfl
          | true => exact absurd (by rw [R.mv (by omega)]; exact i4) ((hA.mp q2).2 i (Nat.zero_le i) (by omega) i3)
        rw [f1, hF]
        rfl
    · rw [decide_eq_false e, if_neg Bool.false_ne_true, z_al47o (by omega)]
