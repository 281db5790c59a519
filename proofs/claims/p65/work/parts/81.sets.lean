section SETS
variable {al att : Nat → Int32} {n : Nat}
theorem z_aof4 (hn : n ≤ 8) (hA : ∀ j, j < n → x_mo_attackers al n j = att j) {xs : Int32} : ∀ r k c, k + r = n → x_ex_attackersOf_4 att xs r k c = x_mo_attackersOf_4 al n xs r k c := by
  intro r
  induction r with
  | zero =>
    intro k c _
    rfl
  | succ r ih =>
    intro k c hk
    simp only [x_ex_attackersOf_4, x_mo_attackersOf_4]
    rw [hA k (by omega), Int32.or_zero, z_has_bt _ (by omega), ih _ _ (by omega), ih _ _ (by omega)]
    have z := z_bit1 xs (j := k) (by omega)
    by_cases e : z_bi xs k = true
    · rw [if_pos e, if_pos (z.mpr e)]
    · rw [if_neg e, if_neg (fun c => e (z.mp c))]
theorem z_aof (hn : n ≤ 8) (hA : ∀ j, j < n → x_mo_attackers al n j = att j) (xs : Int32) : x_ex_attackersOf n att xs = x_mo_attackersOf al n xs := z_aof4 hn hA n 0 0 (by omega)
theorem z_free (hn : n ≤ 8) (hA : ∀ j, j < n → x_mo_attackers al n j = att j) (xs : Int32) : x_ex_isFree n att xs = x_mo_isFree al n xs := by
  unfold x_ex_isFree x_mo_isFree
  rw [z_aof hn hA]
theorem z_aof4lt {xs : Int32} (hn : n ≤ 8) (hb : ∀ j, j < n → z_sub n 0 (att j)) : ∀ r k c, k + r = n → z_sub n 0 c → z_sub n 0 (x_ex_attackersOf_4 att xs r k c) := by
  intro r
  induction r with
  | zero =>
    intro k c _ h
    exact h
  | succ r ih =>
    intro k c hk h
    simp only [x_ex_attackersOf_4]
    split
    · refine ih _ _ (by omega) (fun j hj q => ?_)
      rw [z_bi_or, Bool.or_eq_true] at q
      rcases q with q | q
      · exact h j hj q
      · exact hb k (by omega) j hj q
    · exact ih _ _ (by omega) h
theorem z_aby2 {xs xb : Int32} (hn : n ≤ 8) : ∀ r k, k + r = n → (x_ex_isAttackedBy_2 att xs xb r k = .inl () ∧ ∀ j, k ≤ j → j < n → z_bi xs j = true → ¬ att j &&& xb = 0) ∨ (x_ex_isAttackedBy_2 att xs xb r k = .inr false ∧ ∃ j, j < n ∧ z_bi xs j = true ∧ att j &&& xb = 0) := by
  intro r
  induction r with
  | zero =>
    intro k hk
    exact Or.inl ⟨rfl, fun j h1 h2 => by omega⟩
  | succ r ih =>
    intro k hk
    simp only [x_ex_isAttackedBy_2]
    rw [z_has_bt _ (by omega)]
    have more : (¬ (z_bi xs k = true) ∨ ¬ att k &&& xb = 0) → (x_ex_isAttackedBy_2 att xs xb r (k + 1) = .inl () ∧ ∀ j, k ≤ j → j < n → z_bi xs j = true → ¬ att j &&& xb = 0) ∨ (x_ex_isAttackedBy_2 att xs xb r (k + 1) = .inr false ∧ ∃ j, j < n ∧ z_bi xs j = true ∧ att j &&& xb = 0) := by
      intro hk0
      rcases ih (k + 1) (by omega) with ⟨a, b⟩ | z
      · refine Or.inl ⟨a, fun j h1 h2 h3 => ?_⟩
        by_cases e : j = k
        · subst e
          rcases hk0 with q | q
          · exact absurd h3 q
          · exact q
        · exact b j (by omega) h2 h3
      · exact Or.inr z
    by_cases e : z_bi xs k = true
    · rw [if_pos e]
      by_cases e2 : att k &&& xb = 0
      · rw [if_pos e2]
        exact Or.inr ⟨rfl, k, by omega, e, e2⟩
      · rw [if_neg e2]
        exact more (Or.inr e2)
    · rw [if_neg e]
      exact more (Or.inl e)
theorem z_aby {xs xb : Int32} (hn : n ≤ 8) : x_ex_isAttackedBy n att xs xb = true ↔ ∀ j, j < n → z_bi xs j = true → ¬ att j &&& xb = 0 := by
  unfold x_ex_isAttackedBy
  rcases z_aby2 (att := att) (xs := xs) (xb := xb) hn n 0 (by omega) with ⟨a, b⟩ | ⟨a, j, h1, h2, h3⟩
  · rw [a]
    exact ⟨fun _ j hj q => b j (Nat.zero_le j) hj q, fun _ => rfl⟩
  · rw [a]
    exact ⟨fun c => (by cases c), fun c => absurd h3 (c j h1 h2)⟩
theorem z_atb4 (hn : n ≤ 8) (hA : ∀ j, j < n → x_mo_attackers al n j = att j) {xs : Int32} : ∀ r k c, k + r = n → ∀ j, j < 32 → (z_bi (x_mo_attackedBy_4 al n xs r k c) j = true ↔ z_bi c j = true ∨ (k ≤ j ∧ j < n ∧ ¬ att j &&& xs = 0)) := by
  intro r
  induction r with
  | zero =>
    intro k c hk j hj
    have e : ¬ (k ≤ j ∧ j < n ∧ ¬ att j &&& xs = 0) := fun q => by omega
    simp only [x_mo_attackedBy_4, e, or_false]
  | succ r ih =>
    intro k c hk j hj
    simp only [x_mo_attackedBy_4]
    rw [hA k (by omega), Int32.or_zero]
    by_cases e2 : att k &&& xs = 0
    · rw [if_pos e2, ih _ _ (by omega) j hj]
      constructor
      · rintro (h | h)
        · exact Or.inl h
        · exact Or.inr ⟨by omega, h.2⟩
      · rintro (h | h)
        · exact Or.inl h
        · by_cases q : j = k
          · subst q
            exact absurd e2 h.2.2
          · exact Or.inr ⟨by omega, h.2⟩
    · rw [if_neg e2, ih _ _ (by omega) j hj, z_bi_or, z_bi_shl (by omega) hj, Bool.or_eq_true, decide_eq_true_eq]
      constructor
      · rintro ((h | h) | h)
        · exact Or.inl h
        · subst h
          exact Or.inr ⟨by omega, by omega, e2⟩
        · exact Or.inr ⟨by omega, h.2⟩
      · rintro (h | h)
        · exact Or.inl (Or.inl h)
        · by_cases q : j = k
          · exact Or.inl (Or.inr q)
          · exact Or.inr ⟨by omega, h.2⟩
theorem z_atb (hn : n ≤ 8) (hA : ∀ j, j < n → x_mo_attackers al n j = att j) (xs : Int32) {j : Nat} (hj : j < 32) : z_bi (x_mo_attackedBy al n xs) j = true ↔ j < n ∧ ¬ att j &&& xs = 0 := by
  refine (z_atb4 hn hA (xs := xs) n 0 0 (by omega) j hj).trans ?_
  rw [z_bi_0]
  constructor
  · rintro (h | h)
    · cases h
    · exact h.2
  · exact fun h => Or.inr ⟨Nat.zero_le j, h⟩
theorem z_eqz {x : Int32} : x = 0 ↔ ∀ j, j < 32 → z_bi x j = false := by
  constructor
  · rintro rfl j _
    exact z_bi_0 j
  · intro h
    exact z_bi_ext fun j hj => by rw [h j hj, z_bi_0]
theorem z_adm (hn : n ≤ 8) (hA : ∀ j, j < n → x_mo_attackers al n j = att j) (hb : ∀ j, j < n → z_sub n 0 (att j)) (xs : Int32) : x_ex_isAdmissible n att xs = x_mo_isAdmissible al n xs := by
  have hs : z_sub n 0 (x_ex_attackersOf n att xs) := z_aof4lt hn hb n 0 0 (by omega) z_sub0
  unfold x_ex_isAdmissible x_mo_isAdmissible x_mo_isFree
  rw [z_aof hn hA] at hs ⊢
  have key : x_ex_isAttackedBy n att (x_mo_attackersOf al n xs) xs = true ↔ (x_mo_attackersOf al n xs) &&& ((x_mo_attackedBy al n xs) ^^^ (-1 : Int32)) = 0 := by
    rw [z_aby hn, z_eqz]
    constructor
    · intro h j hj
      rw [z_bi_and, z_bi_not _ hj]
      cases e : z_bi (x_mo_attackersOf al n xs) j with
      | false => rfl
      | true =>
        have hjn := (hs j hj e).1
        rw [(z_atb hn hA xs hj).mpr ⟨hjn, h j hjn e⟩]
        rfl
    · intro h j hj e
      have g := h j (by omega)
      rw [z_bi_and, z_bi_not _ (by omega), e, Bool.true_and] at g
      exact ((z_atb hn hA xs (by omega)).mp (by simpa using g)).2
  by_cases e1 : (x_mo_attackersOf al n xs) &&& xs = 0
  · rw [if_pos e1, if_pos e1, if_pos rfl]
    by_cases e2 : x_ex_isAttackedBy n att (x_mo_attackersOf al n xs) xs = true
    · rw [if_pos e2, if_pos (key.mp e2)]
    · rw [if_neg e2, if_neg (fun c => e2 (key.mpr c))]
  · rw [if_neg e1, if_neg e1, if_neg Bool.false_ne_true]
theorem z_allb : ∀ n, n < 9 → ∀ j, j < 32 → z_bi (nI (2 ^ n - 1)) j = decide (j < n) := by decide +kernel
theorem z_bitb {m j : Nat} (hj : j < 32) : z_bi (nI m) j = m.testBit j := by
  have e3 : z_bi (nI m) j = (BitVec.ofNat 32 m).getLsbD j := rfl
  rw [e3, BitVec.getLsbD_ofNat, decide_eq_true hj, Bool.true_and]
theorem z_bitlt {m n j : Nat} (hm : m < 2 ^ n) (h : m.testBit j = true) : j < n := by
  refine Classical.byContradiction fun c => ?_
  have : m < 2 ^ j := Nat.lt_of_lt_of_le hm (Nat.pow_le_pow_right (by omega) (by omega))
  rw [Nat.testBit_lt_two_pow this] at h
  cases h
theorem z_stable (hn : n ≤ 8) (hA : ∀ j, j < n → x_mo_attackers al n j = att j) {m : Nat} (hm : m < 2 ^ n) : x_ex_isAttackedBy n att ((nI (2 ^ n - 1)) &&& ((nI m) ^^^ (-1 : Int32))) (nI m) = true ↔ (nI m) ||| (x_mo_attackedBy al n (nI m)) = nI (2 ^ n - 1) := by
  rw [z_aby hn]
  constructor
  · intro h
    refine z_bi_ext fun j hj => ?_
    rw [z_bi_or, z_allb n (by omega) j hj]
    by_cases hjn : j < n
    · rw [decide_eq_true hjn]
      cases e : z_bi (nI m) j with
      | true => rfl
      | false =>
        rw [Bool.false_or]
        refine (z_atb hn hA (nI m) hj).mpr ⟨hjn, h j hjn ?_⟩
        rw [z_bi_and, z_bi_not _ hj, z_allb n (by omega) j hj, e, decide_eq_true hjn]
        rfl
    · rw [decide_eq_false hjn]
      have e1 : z_bi (nI m) j = false := by
        cases e : z_bi (nI m) j with
        | false => rfl
        | true =>
          rw [z_bitb hj] at e
          exact absurd (z_bitlt hm e) hjn
      have e2 : z_bi (x_mo_attackedBy al n (nI m)) j = false := by
        cases e : z_bi (x_mo_attackedBy al n (nI m)) j with
        | false => rfl
        | true => exact absurd ((z_atb hn hA (nI m) hj).mp e).1 hjn
      rw [e1, e2]
      rfl
  · intro h j hj q
    rw [z_bi_and, z_bi_not _ (by omega), Bool.and_eq_true] at q
    have q2 : z_bi (nI m) j = false := by simpa using q.2
    have g : z_bi ((nI m) ||| (x_mo_attackedBy al n (nI m))) j = true := by
      rw [h, z_allb n (by omega) j (by omega)]
      exact decide_eq_true hj
    rw [z_bi_or, q2, Bool.false_or] at g
    exact ((z_atb hn hA (nI m) (by omega)).mp g).2
theorem z_stab10 (hn : n ≤ 8) (hA : ∀ j, j < n → x_mo_attackers al n j = att j) : ∀ r k c, k + r = 2 ^ n → x_ex_countStable_10 n att r k c = x_mo_stableCount_9 al n r k c := by
  intro r
  induction r with
  | zero =>
    intro k c _
    rfl
  | succ r ih =>
    intro k c hk
    simp only [x_ex_countStable_10, x_mo_stableCount_9]
    rw [z_free hn hA, Int32.add_zero, ih _ _ (by omega), ih _ _ (by omega)]
    have z := z_stable hn hA (m := k) (by omega)
    split
    · by_cases e : x_ex_isAttackedBy n att ((nI (2 ^ n - 1)) &&& ((nI k) ^^^ (-1 : Int32))) (nI k) = true
      · rw [if_pos e, if_pos (z.mp e)]
      · rw [if_neg e, if_neg (fun c => e (z.mpr c))]
    · rfl
theorem z_stabs (hn : n ≤ 8) (hA : ∀ j, j < n → x_mo_attackers al n j = att j) : x_ex_countStable n att = x_mo_stableCount_9 al n (2 ^ n) 0 0 := by
  have hp : 0 < 2 ^ n := Nat.pow_pos (by omega)
  have e : 2 ^ n - 1 + 1 = 2 ^ n := by omega
  show x_ex_countStable_10 n att (2 ^ n - 1 + 1) 0 0 = _
  rw [e]
  exact z_stab10 hn hA (2 ^ n) 0 0 (by omega)
theorem z_gr10 (hn : n ≤ 8) (hA : ∀ j, j < n → x_mo_attackers al n j = att j) (hb : ∀ j, j < n → z_sub n 0 (att j)) : ∀ r k c, k + r = 2 ^ n → x_ex_sizeOfGreatestAdmissible_10 n att r k c = x_mo_greatestAdmissible_9 al n r k c := by
  have hp : (2 : Nat) ^ n ≤ 256 := Nat.pow_le_pow_right (n := 2) (by omega) hn
  intro r
  induction r with
  | zero =>
    intro k c _
    rfl
  | succ r ih =>
    intro k c hk
    simp only [x_ex_sizeOfGreatestAdmissible_10, x_mo_greatestAdmissible_9]
    rw [z_adm hn hA hb, ← z_size k (by omega), ih _ _ (by omega), ih _ _ (by omega)]
    by_cases e : x_mo_size (nI k) ≤ c
    · rw [if_pos e, if_neg (fun q => Int32.lt_irrefl (Int32.lt_of_lt_of_le q e))]
      split <;> rfl
    · rw [if_neg e, if_pos (Int32.not_le.mp e)]
end SETS
theorem z_attS {B : Nat} {s : ZS} (W : z_wfB B s) : ∀ j, j < s.1 → z_sub s.1 0 (s.2.2.2.2.2.1 j) := fun j hj k hk q => ⟨z_attlt W hj hk q, z_bi_0 k⟩
