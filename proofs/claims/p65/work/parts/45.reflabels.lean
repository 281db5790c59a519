def z_sub (n : Nat) (s c : Int32) : Prop := ∀ j, j < 32 → z_bi c j = true → j < n ∧ z_bi s j = false
theorem z_sub.add {n k : Nat} {s c : Int32} (h : z_sub n s c) (hk : k < n) (hn : n ≤ 8) (hs : z_bi s k = false) : z_sub n s (c ||| ((1 : Int32) <<< (nI k &&& 31))) := fun j hj hb => by
  rw [z_bi_or, z_bi_shl (by omega) hj, Bool.or_eq_true] at hb
  rcases hb with hb | hb
  · exact h j hj hb
  · obtain rfl := of_decide_eq_true hb
    exact ⟨hk, hs⟩
theorem z_sub0 {n : Nat} {s : Int32} : z_sub n s 0 := fun j _ hb => by
  rw [z_bi_0] at hb
  cases hb
theorem z_lab7 {al : Nat → Int32} {ac rj : Int32} {n : Nat} (hn : n ≤ 8) : ∀ (r k : Nat) (c : Int32), k + r = n → z_sub n (ac ||| rj) c → z_sub n (ac ||| rj) (x_mo_labels_7 al ac rj n r k c) := by
  intro r
  induction r with
  | zero => intro k c _ h; exact h
  | succ r ih =>
    intro k c hk h
    simp only [x_mo_labels_7]
    split
    · next e =>
      split
      · exact ih _ _ (by omega) (h.add (by omega) hn ((z_bit0 _ (by omega)).mp e))
      · exact ih _ _ (by omega) h
    · exact ih _ _ (by omega) h
theorem z_lab77 {al : Nat → Int32} {ac rj a : Int32} {n : Nat} (hn : n ≤ 8) : ∀ (r k : Nat) (c : Int32), k + r = n → z_sub n ((ac ||| a) ||| rj) c → z_sub n ((ac ||| a) ||| rj) (x_mo_labels_77 al ac rj n a r k c) := by
  intro r
  induction r with
  | zero => intro k c _ h; exact h
  | succ r ih =>
    intro k c hk h
    simp only [x_mo_labels_77]
    split
    · next e =>
      split
      · exact ih _ _ (by omega) h
      · exact ih _ _ (by omega) (h.add (by omega) hn ((z_bit0 _ (by omega)).mp e))
    · exact ih _ _ (by omega) h
theorem z_ne0 {x : Int32} (h : ¬ x = 0) : ∃ j, j < 32 ∧ z_bi x j = true := by
  apply Classical.byContradiction
  intro q
  refine h (z_bi_ext (fun j hj => ?_))
  rw [z_bi_0]
  cases e : z_bi x j with
  | false => rfl
  | true => exact absurd ⟨j, hj, e⟩ q
theorem z_labels_more {al ro : Nat → Int32} {ac rj xr : Int32} {n : Nat} (hn : n ≤ 8) (h : (x_mo_labels al ac rj ro n xr).1 = true) : z_cn (ac ||| rj) n < z_cn ((x_mo_labels al ac rj ro n xr).2.1 ||| (x_mo_labels al ac rj ro n xr).2.2.1) n := by
  unfold x_mo_labels at h ⊢
  have h7 := z_lab7 (al := al) (ac := ac) (rj := rj) hn n 0 0 (by omega) z_sub0
  have h77 := z_lab77 (al := al) (ac := ac) (rj := rj) (a := x_mo_labels_7 al ac rj n n 0 0) hn n 0 0 (by omega) z_sub0
  dsimp only at h ⊢
  generalize x_mo_labels_7 al ac rj n n 0 0 = a at *
  generalize x_mo_labels_77 al ac rj n a n 0 0 = b at *
  by_cases e : a ||| b = 0
  · rw [if_pos e] at h
    cases h
  · rw [if_neg e]
    obtain ⟨j, hj, hb⟩ := z_ne0 e
    refine z_cn_lt n (fun i hi hx => ?_) ?_
    · simp only [z_bi_or, Bool.or_eq_true] at hx ⊢
      rcases hx with q | q
      · exact Or.inl (Or.inl q)
      · exact Or.inr (Or.inl q)
    · rw [z_bi_or, Bool.or_eq_true] at hb
      rcases hb with hb | hb
      · obtain ⟨q1, q2⟩ := h7 j hj hb
        refine ⟨j, q1, q2, ?_⟩
        simp only [z_bi_or, hb]
        simp
      · obtain ⟨q1, q2⟩ := h77 j hj hb
        simp only [z_bi_or, Bool.or_eq_false_iff] at q2
        refine ⟨j, q1, ?_, ?_⟩
        · simp only [z_bi_or, q2.1.1, q2.2, Bool.or_false]
        · simp only [z_bi_or, hb]
          simp
/-- the rounds from the k-th on; r may follow -/
def x_la_12 (al : Nat → Int32) (n : Nat) : Nat → Nat → Int32 → Int32 → (Nat → Int32) → Int32 × Int32 × (Nat → Int32)
  | 0, _, ac, rj, ro => (ac, rj, ro)
  | r + 1, k, ac, rj, ro => match x_mo_labels al ac rj ro n (nI k) with
    | (v, ac', rj', ro') => if v then x_la_12 al n r (k + 1) ac' rj' ro' else (ac', rj', ro')
def x_mo_labelsAll (al : Nat → Int32) (n : Nat) (ro : Nat → Int32) : Int32 × Int32 × (Nat → Int32) := x_la_12 al n (n + 1) 1 0 0 ro
theorem z_mlab_nar (ac rj : Int32) (j : Nat) : narrow .char (.int (x_mo_labelOf ac rj j)) = .int (x_mo_labelOf ac rj j) := by
  unfold x_mo_labelOf
  split
  · rfl
  · split <;> rfl
def x_mo_status (al : Nat → Int32) (ro : Nat → Int32) (n : Nat) (xid : Int32) : (Int32) × (Int32) × (Int32) × (Int32) × (Nat → Int32) := (match x_mo_labelsAll al n ro with | (y1_ac, y1_rj, y1_ro) => (if x_th n al xid then (x_mo_labelOf y1_ac y1_rj (x_pl n al xid - 1), (if x_th n al xid then 0 else 1), y1_ac, y1_rj, y1_ro) else (0, (if x_th n al xid then 0 else 1), y1_ac, y1_rj, y1_ro)))
def x_mo_roundOf (al : Nat → Int32) (ro : Nat → Int32) (n : Nat) (xid : Int32) : (Int32) × (Int32) × (Int32) × (Int32) × (Nat → Int32) := (match x_mo_labelsAll al n ro with | (y1_ac, y1_rj, y1_ro) => (if x_th n al xid then (if (x_mo_labelOf y1_ac y1_rj (x_pl n al xid - 1)) = (117) then (0, 1, y1_ac, y1_rj, y1_ro) else (y1_ro (x_pl n al xid - 1), 0, y1_ac, y1_rj, y1_ro)) else (0, 1, y1_ac, y1_rj, y1_ro)))
def x_mo_isAcceptedByGame (al : Nat → Int32) (ro : Nat → Int32) (n : Nat) (xid : Int32) : (Bool) × (Int32) × (Int32) × (Int32) × (Nat → Int32) := (match x_mo_status al ro n xid with | (v1, y1_th, y1_ac, y1_rj, y1_ro) => (if (v1) = (97) then (true, y1_th, y1_ac, y1_rj, y1_ro) else (false, y1_th, y1_ac, y1_rj, y1_ro)))
def x_mo_acceptedCount (al : Nat → Int32) (ro : Nat → Int32) (n : Nat) : (Int32) × (Int32) × (Int32) × (Int32) × (Nat → Int32) := (match x_mo_labelsAll al n ro with | (y2_ac, y2_rj, y2_ro) => (x_mo_size y2_ac, 0, y2_ac, y2_rj, y2_ro))
def x_mo_undecidedCount (al : Nat → Int32) (ro : Nat → Int32) (n : Nat) : (Int32) × (Int32) × (Int32) × (Int32) × (Nat → Int32) := (match x_mo_labelsAll al n ro with | (y2_ac, y2_rj, y2_ro) => ((nI (n)) - (x_mo_size (y2_ac ||| y2_rj)), 0, y2_ac, y2_rj, y2_ro))
def x_mo_isCredible (al : Nat → Int32) (ad : Nat → Int32) (n : Nat) (xid : Int32) : (Bool) × (Int32) × (Nat → Int32) := (if x_th n al xid then (match x_mo_preferredWith al ad n ((1 : Int32) <<< ((nI (x_pl n al xid - 1)) &&& 31)) with | (v3, y3_ad) => (if (v3) ≤ (0) then (false, (if x_th n al xid then 0 else 1), y3_ad) else (true, (if x_th n al xid then 0 else 1), y3_ad))) else (false, (if x_th n al xid then 0 else 1), ad))
def x_mo_canStandTogether (al : Nat → Int32) (ad : Nat → Int32) (n : Nat) (xid : Int32) (xo : Int32) : (Bool) × (Int32) × (Nat → Int32) := (if x_ath n al xid xo then (match x_mo_preferredWith al ad n (((1 : Int32) <<< ((nI (x_pl n al xid - 1)) &&& 31)) ||| ((1 : Int32) <<< ((nI (x_pl n al xo - 1)) &&& 31))) with | (v6, y6_ad) => (if (v6) ≤ (0) then (false, (if x_ath n al xid xo then 0 else 1), y6_ad) else (true, (if x_ath n al xid xo then 0 else 1), y6_ad))) else (false, (if x_ath n al xid xo then 0 else 1), ad))
