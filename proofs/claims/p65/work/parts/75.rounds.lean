theorem z_let117 (ac rj : Int32) {k : Nat} (hk : k < 32) : x_lb_letter ac rj k = 117 ↔ ((ac ||| rj) >>> (nI k &&& 31)) &&& 1 = 0 := by
  rw [z_bit0 _ hk, z_bi_or]
  unfold x_lb_letter
  rw [z_has_bt _ hk, z_has_bt _ hk]
  cases z_bi ac k <;> cases z_bi rj k <;> simp
theorem z_fa7 {al att : Nat → Int32} {ac rj : Int32} {n : Nat} (hn : n ≤ 8) (hA : ∀ j, j < n → x_mo_attackers al n j = att j) : ∀ r k c, k + r = n → x_lb_findAcceptable_4 ac rj att r k c = x_mo_labels_7 al ac rj n r k c := by
  intro r
  induction r with
  | zero =>
    intro k c _
    rfl
  | succ r ih =>
    intro k c hk
    simp only [x_lb_findAcceptable_4, x_mo_labels_7]
    rw [hA k (by omega), ih _ _ (by omega), ih _ _ (by omega)]
    by_cases e : ((ac ||| rj) >>> (nI k &&& 31)) &&& 1 = 0
    · rw [if_pos e, if_pos ((z_let117 ac rj (by omega)).mpr e)]
    · rw [if_neg e, if_neg (fun c => e ((z_let117 ac rj (by omega)).mp c))]
theorem z_fr77 {al att : Nat → Int32} {ac rj f : Int32} {n : Nat} (hn : n ≤ 8) (hA : ∀ j, j < n → x_mo_attackers al n j = att j) : ∀ r k c, k + r = n → x_lb_findRejectable_4 (ac ||| f) rj att r k c = x_mo_labels_77 al ac rj n f r k c := by
  intro r
  induction r with
  | zero =>
    intro k c _
    rfl
  | succ r ih =>
    intro k c hk
    simp only [x_lb_findRejectable_4, x_mo_labels_77]
    rw [hA k (by omega), ih _ _ (by omega), ih _ _ (by omega)]
    by_cases e : (((ac ||| f) ||| rj) >>> (nI k &&& 31)) &&& 1 = 0
    · rw [if_pos e, if_pos ((z_let117 (ac ||| f) rj (by omega)).mpr e)]
    · rw [if_neg e, if_neg (fun c => e ((z_let117 (ac ||| f) rj (by omega)).mp c))]
theorem z_l7bit {al : Nat → Int32} {ac rj : Int32} {n : Nat} (hn : n ≤ 8) : ∀ r k c, k + r = n → ∀ j, j < 32 → (z_bi (x_mo_labels_7 al ac rj n r k c) j = true ↔ z_bi c j = true ∨ (k ≤ j ∧ j < n ∧ z_bi (ac ||| rj) j = false ∧ (x_mo_attackers al n j) &&& (rj ^^^ (-1 : Int32)) = 0)) := by
  intro r
  induction r with
  | zero =>
    intro k c hk j hj
    have e : ¬ (k ≤ j ∧ j < n ∧ z_bi (ac ||| rj) j = false ∧ (x_mo_attackers al n j) &&& (rj ^^^ (-1 : Int32)) = 0) := fun q => by omega
    simp only [x_mo_labels_7, e, or_false]
  | succ r ih =>
    intro k c hk j hj
    simp only [x_mo_labels_7]
    by_cases e1 : ((ac ||| rj) >>> (nI k &&& 31)) &&& 1 = 0
    · have b1 := (z_bit0 _ (by omega)).mp e1
      rw [if_pos e1]
      by_cases e2 : (x_mo_attackers al n k) &&& (rj ^^^ (-1 : Int32)) = 0
      · rw [if_pos e2, ih _ _ (by omega) j hj, z_bi_or, z_bi_shl (by omega) hj, Bool.or_eq_true, decide_eq_true_eq]
        constructor
        · rintro ((h | h) | h)
          · exact Or.inl h
          · subst h
            exact Or.inr ⟨by omega, by omega, b1, e2⟩
          · exact Or.inr ⟨by omega, h.2⟩
        · rintro (h | h)
          · exact Or.inl (Or.inl h)
          · by_cases q : j = k
            · exact Or.inl (Or.inr q)
            · exact Or.inr ⟨by omega, h.2⟩
      · rw [if_neg e2, ih _ _ (by omega) j hj]
        constructor
        · rintro (h | h)
          · exact Or.inl h
          · exact Or.inr ⟨by omega, h.2⟩
        · rintro (h | h)
          · exact Or.inl h
          · by_cases q : j = k
            · subst q
              exact absurd h.2.2.2 e2
            · exact Or.inr ⟨by omega, h.2⟩
    · have b1 : ¬ z_bi (ac ||| rj) k = false := fun q => e1 ((z_bit0 _ (by omega)).mpr q)
      rw [if_neg e1, ih _ _ (by omega) j hj]
      constructor
      · rintro (h | h)
        · exact Or.inl h
        · exact Or.inr ⟨by omega, h.2⟩
      · rintro (h | h)
        · exact Or.inl h
        · by_cases q : j = k
          · subst q
            exact absurd h.2.2.1 b1
          · exact Or.inr ⟨by omega, h.2⟩
theorem z_l77bit {al : Nat → Int32} {ac rj f : Int32} {n : Nat} (hn : n ≤ 8) : ∀ r k c, k + r = n → ∀ j, j < 32 → (z_bi (x_mo_labels_77 al ac rj n f r k c) j = true ↔ z_bi c j = true ∨ (k ≤ j ∧ j < n ∧ z_bi ((ac ||| f) ||| rj) j = false ∧ ¬ (x_mo_attackers al n j) &&& (ac ||| f) = 0)) := by
  intro r
  induction r with
  | zero =>
    intro k c hk j hj
    have e : ¬ (k ≤ j ∧ j < n ∧ z_bi ((ac ||| f) ||| rj) j = false ∧ ¬ (x_mo_attackers al n j) &&& (ac ||| f) = 0) := fun q => by omega
    simp only [x_mo_labels_77, e, or_false]
  | succ r ih =>
    intro k c hk j hj
    simp only [x_mo_labels_77]
    by_cases e1 : (((ac ||| f) ||| rj) >>> (nI k &&& 31)) &&& 1 = 0
    · have b1 := (z_bit0 _ (by omega)).mp e1
      rw [if_pos e1]
      by_cases e2 : (x_mo_attackers al n k) &&& (ac ||| f) = 0
      · rw [if_pos e2, ih _ _ (by omega) j hj]
        constructor
        · rintro (h | h)
          · exact Or.inl h
          · exact Or.inr ⟨by omega, h.2⟩
        · rintro (h | h)
          · exact Or.inl h
          · by_cases q : j = k
            · subst q
              exact absurd e2 h.2.2.2
            · exact Or.inr ⟨by omega, h.2⟩
      · rw [if_neg e2, ih _ _ (by omega) j hj, z_bi_or, z_bi_shl (by omega) hj, Bool.or_eq_true, decide_eq_true_eq]
        constructor
        · rintro ((h | h) | h)
          · exact Or.inl h
          · subst h
            exact Or.inr ⟨by omega, by omega, b1, e2⟩
          · exact Or.inr ⟨by omega, h.2⟩
        · rintro (h | h)
          · exact Or.inl (Or.inl h)
          · by_cases q : j = k
            · exact Or.inl (Or.inr q)
            · exact Or.inr ⟨by omega, h.2⟩
    · have b1 : ¬ z_bi ((ac ||| f) ||| rj) k = false := fun q => e1 ((z_bit0 _ (by omega)).mpr q)
      rw [if_neg e1, ih _ _ (by omega) j hj]
      constructor
      · rintro (h | h)
        · exact Or.inl h
        · exact Or.inr ⟨by omega, h.2⟩
      · rintro (h | h)
        · exact Or.inl h
        · by_cases q : j = k
          · subst q
            exact absurd h.2.2.1 b1
          · exact Or.inr ⟨by omega, h.2⟩
theorem z_note {xs xr : Int32} : ∀ r k ro i, k + r ≤ 8 → x_lb_noteRound_2 xs xr r k ro i = if k ≤ i ∧ i < k + r ∧ z_bi xs i = true then xr else ro i := by
  intro r
  induction r with
  | zero =>
    intro k ro i _
    rw [if_neg (by omega)]
    rfl
  | succ r ih =>
    intro k ro i hk
    simp only [x_lb_noteRound_2]
    rw [z_has_bt _ (by omega)]
    by_cases e : i = k
    · subst e
      by_cases b : z_bi xs i = true
      · rw [if_pos b, ih _ _ _ (by omega), if_neg (by omega), upd_eq, if_pos ⟨by omega, by omega, b⟩]
      · rw [if_neg b, ih _ _ _ (by omega), if_neg (by omega), if_neg (fun q => b q.2.2)]
    · have c1 : (k + 1 ≤ i ∧ i < k + 1 + r ∧ z_bi xs i = true) ↔ (k ≤ i ∧ i < k + (r + 1) ∧ z_bi xs i = true) := by
        constructor
        · exact fun q => ⟨by omega, by omega, q.2.2⟩
        · exact fun q => ⟨by omega, by omega, q.2.2⟩
      by_cases b : z_bi xs k = true
      · rw [if_pos b, ih _ _ _ (by omega), upd_ne e]
        simp only [c1]
      · rw [if_neg b, ih _ _ _ (by omega)]
        simp only [c1]
theorem z_note2 {xr a b : Int32} : ∀ r k ro i, k + r ≤ 8 → x_mo_labels_145 xr a b r k ro i = if k ≤ i ∧ i < k + r ∧ z_bi (a ||| b) i = true then xr else ro i := by
  intro r
  induction r with
  | zero =>
    intro k ro i _
    rw [if_neg (by omega)]
    rfl
  | succ r ih =>
    intro k ro i hk
    simp only [x_mo_labels_145]
    have z := z_bit1 (a ||| b) (j := k) (by omega)
    by_cases e : i = k
    · subst e
      by_cases q : z_bi (a ||| b) i = true
      · rw [if_pos (z.mpr q), ih _ _ _ (by omega), if_neg (by omega), upd_eq, if_pos ⟨by omega, by omega, q⟩]
      · rw [if_neg (fun c => q (z.mp c)), ih _ _ _ (by omega), if_neg (by omega), upd_eq, if_neg (fun c => q c.2.2)]
    · have c1 : (k + 1 ≤ i ∧ i < k + 1 + r ∧ z_bi (a ||| b) i = true) ↔ (k ≤ i ∧ i < k + (r + 1) ∧ z_bi (a ||| b) i = true) := by
        constructor
        · exact fun q => ⟨by omega, by omega, q.2.2⟩
        · exact fun q => ⟨by omega, by omega, q.2.2⟩
      by_cases q : z_bi (a ||| b) k = true
      · rw [if_pos (z.mpr q), ih _ _ _ (by omega), upd_ne e]
        simp only [c1]
      · rw [if_neg (fun c => q (z.mp c)), ih _ _ _ (by omega), upd_ne e]
        simp only [c1]
