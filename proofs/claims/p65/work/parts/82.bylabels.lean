/-- how many numbers under k have P -/
def z_cnt (P : Nat → Bool) : Nat → Nat
  | 0 => 0
  | k + 1 => z_cnt P k + if P k then 1 else 0
theorem z_cnt_congr {P Q : Nat → Bool} : ∀ k, (∀ m, m < k → P m = Q m) → z_cnt P k = z_cnt Q k := by
  intro k
  induction k with
  | zero =>
    intro _
    rfl
  | succ k ih =>
    intro h
    simp only [z_cnt]
    rw [ih (fun m hm => h m (by omega)), h k (by omega)]
theorem z_cnt_zero {P : Nat → Bool} : ∀ k, (∀ m, m < k → P m = false) → z_cnt P k = 0 := by
  intro k
  induction k with
  | zero =>
    intro _
    rfl
  | succ k ih =>
    intro h
    simp only [z_cnt]
    rw [ih (fun m hm => h m (by omega)), h k (by omega), if_neg Bool.false_ne_true]
theorem z_cnt_add {P Q R : Nat → Bool} : ∀ k, (∀ m, m < k → (P m = (Q m || R m)) ∧ (Q m && R m) = false) → z_cnt P k = z_cnt Q k + z_cnt R k := by
  intro k
  induction k with
  | zero =>
    intro _
    rfl
  | succ k ih =>
    intro h
    simp only [z_cnt]
    obtain ⟨h1, h2⟩ := h k (by omega)
    rw [ih (fun m hm => h m (by omega)), h1]
    cases e1 : Q k <;> cases e2 : R k
    · simp
    · simp
      omega
    · simp
      omega
    · rw [e1, e2] at h2
      cases h2
theorem z_cnt_one {P : Nat → Bool} {a : Nat} : ∀ k, a < k → (∀ m, m < k → m ≠ a → P m = false) → z_cnt P k = if P a then 1 else 0 := by
  intro k
  induction k with
  | zero =>
    intro h _
    omega
  | succ k ih =>
    intro h1 h2
    simp only [z_cnt]
    by_cases e : a = k
    · subst e
      rw [z_cnt_zero a (fun m hm => h2 m (by omega) (by omega)), Nat.zero_add]
    · rw [ih (by omega) (fun m hm => h2 m (by omega)), h2 k (by omega) (by omega), if_neg Bool.false_ne_true, Nat.add_zero]
section STAB
variable {att : Nat → Int32} {n : Nat}
def z_stB (n : Nat) (att : Nat → Int32) (m : Nat) : Bool := x_ex_isFree n att (nI m) && x_ex_isAttackedBy n att ((nI (2 ^ n - 1)) &&& ((nI m) ^^^ (-1 : Int32))) (nI m)
theorem z_stcnt : ∀ r k, x_ex_countStable_10 n att r k (nI (z_cnt (z_stB n att) k)) = nI (z_cnt (z_stB n att) (k + r)) := by
  intro r
  induction r with
  | zero =>
    intro k
    rfl
  | succ r ih =>
    intro k
    have e : k + (r + 1) = k + 1 + r := by omega
    rw [e, ← ih (k + 1)]
    simp only [x_ex_countStable_10, z_cnt]
    unfold z_stB
    cases x_ex_isFree n att (nI k)
    · simp
    · cases x_ex_isAttackedBy n att ((nI (2 ^ n - 1)) &&& ((nI k) ^^^ (-1 : Int32))) (nI k)
      · simp
      · simp only [Bool.and_self, if_true, nI_1]
theorem z_aofb4 (hn : n ≤ 8) {xs : Int32} : ∀ r k c, k + r = n → ∀ a, (z_bi (x_ex_attackersOf_4 att xs r k c) a = true ↔ z_bi c a = true ∨ ∃ j, k ≤ j ∧ j < n ∧ z_bi xs j = true ∧ z_bi (att j) a = true) := by
  intro r
  induction r with
  | zero =>
    intro k c hk a
    constructor
    · exact fun h => Or.inl h
    · rintro (h | ⟨j, h1, h2, -⟩)
      · exact h
      · omega
  | succ r ih =>
    intro k c hk a
    simp only [x_ex_attackersOf_4]
    rw [z_has_bt _ (by omega)]
    by_cases e : z_bi xs k = true
    · rw [if_pos e, ih _ _ (by omega) a, z_bi_or, Bool.or_eq_true]
      constructor
      · rintro ((h | h) | ⟨j, h1, h2, h3⟩)
        · exact Or.inl h
        · exact Or.inr ⟨k, by omega, by omega, e, h⟩
        · exact Or.inr ⟨j, by omega, h2, h3⟩
      · rintro (h | ⟨j, h1, h2, h3⟩)
        · exact Or.inl (Or.inl h)
        · by_cases q : j = k
          · subst q
            exact Or.inl (Or.inr h3.2)
          · exact Or.inr ⟨j, by omega, h2, h3⟩
    · rw [if_neg e, ih _ _ (by omega) a]
      constructor
      · rintro (h | ⟨j, h1, h2, h3⟩)
        · exact Or.inl h
        · exact Or.inr ⟨j, by omega, h2, h3⟩
      · rintro (h | ⟨j, h1, h2, h3⟩)
        · exact Or.inl h
        · by_cases q : j = k
          · subst q
            exact absurd h3.1 e
          · exact Or.inr ⟨j, by omega, h2, h3⟩
theorem z_freeb (hn : n ≤ 8) {xs : Int32} : x_ex_isFree n att xs = true ↔ ∀ k, k < n → z_bi xs k = true → ∀ a, a < 32 → z_bi (att k) a = true → z_bi xs a = false := by
  have hA : ∀ a, (z_bi (x_ex_attackersOf n att xs) a = true ↔ ∃ j, j < n ∧ z_bi xs j = true ∧ z_bi (att j) a = true) := fun a => by
    refine (z_aofb4 hn n 0 0 (by omega) a).trans ?_
    rw [z_bi_0]
    constructor
    · rintro (h | ⟨j, -, h⟩)
      · cases h
      · exact ⟨j, h⟩
    · rintro ⟨j, h⟩
      exact Or.inr ⟨j, Nat.zero_le j, h⟩
  have e : x_ex_isFree n att xs = true ↔ (x_ex_attackersOf n att xs) &&& xs = 0 := by
    unfold x_ex_isFree
    by_cases c : (x_ex_attackersOf n att xs) &&& xs = 0
    · rw [if_pos c]
      exact ⟨fun _ => c, fun _ => rfl⟩
    · rw [if_neg c]
      exact ⟨fun q => (by cases q), fun q => absurd q c⟩
  rw [e]
  constructor
  · intro h k hk q a ha qa
    exact z_and0' h ((hA a).mpr ⟨k, hk, q, qa⟩)
  · intro h
    refine z_and0 (fun a ha q => ?_)
    obtain ⟨j, hj, q1, q2⟩ := (hA a).mp q
    exact h j hj q1 a ha q2
theorem z_abyb (hn : n ≤ 8) {xs xb : Int32} : x_ex_isAttackedBy n att xs xb = true ↔ ∀ j, j < n → z_bi xs j = true → ∃ a, a < 32 ∧ z_bi (att j) a = true ∧ z_bi xb a = true := by
  rw [z_aby hn]
  constructor
  · exact fun h j hj q => z_andne (h j hj q)
  · intro h j hj q c
    obtain ⟨a, ha, a1, a2⟩ := h j hj q
    rw [z_and0' c a1] at a2
    cases a2
theorem z_stb (hn : n ≤ 8) {m : Nat} : z_stB n att m = true ↔ (∀ k, k < n → m.testBit k = true → ∀ a, a < 32 → z_bi (att k) a = true → m.testBit a = false) ∧ ∀ j, j < n → m.testBit j = false → ∃ a, a < 32 ∧ z_bi (att j) a = true ∧ m.testBit a = true := by
  unfold z_stB
  rw [Bool.and_eq_true, z_freeb hn, z_abyb hn]
  constructor
  · rintro ⟨h1, h2⟩
    refine ⟨fun k hk q a ha qa => ?_, fun j hj q => ?_⟩
    · have := h1 k hk (by rw [z_bitb (by omega)]; exact q) a ha qa
      rwa [z_bitb ha] at this
    · obtain ⟨a, ha, a1, a2⟩ := h2 j hj (by rw [z_bi_and, z_bi_not _ (by omega), z_allb n (by omega) j (by omega), decide_eq_true hj, z_bitb (by omega), q]; rfl)
      rw [z_bitb ha] at a2
      exact ⟨a, ha, a1, a2⟩
  · rintro ⟨h1, h2⟩
    refine ⟨fun k hk q a ha qa => ?_, fun j hj q => ?_⟩
    · rw [z_bitb (by omega)] at q
      rw [z_bitb ha]
      exact h1 k hk q a ha qa
    · rw [z_bi_and, z_bi_not _ (by omega), Bool.and_eq_true] at q
      have q2 : z_bi (nI m) j = false := by simpa using q.2
      rw [z_bitb (by omega)] at q2
      obtain ⟨a, ha, a1, a2⟩ := h2 j hj q2
      exact ⟨a, ha, a1, by rw [z_bitb ha]; exact a2⟩
theorem z_orpow : ∀ j, j < 8 → ∀ m, m < 128 → m < 2 ^ j → m ||| 2 ^ j = m + 2 ^ j := by decide +kernel
theorem z_cf (hn : n ≤ 8) : ∀ f j m, j ≤ n → m < 2 ^ j → n < j + f → x_cf n att f j (nI m) (nI (2 ^ j - (m + 1))) = nI (z_cnt (fun x => decide (x % 2 ^ j = m) && z_stB n att x) (2 ^ n)) := by
  intro f
  induction f with
  | zero =>
    intro j m h1 h2 h3
    omega
  | succ f ih =>
    intro j m h1 h2 h3
    have u : x_cf n att (f + 1) j (nI m) (nI (2 ^ j - (m + 1))) = x_ex_countFrom n att j (nI m) (nI (2 ^ j - (m + 1))) (x_cf n att f) := rfl
    rw [u]
    unfold x_ex_countFrom
    -- bits of what is inside and outside
    have bo : ∀ i, (2 ^ j - (m + 1)).testBit i = (decide (i < j) && !m.testBit i) := fun i => Nat.testBit_two_pow_sub_succ h2 i
    have bm : ∀ x i, x % 2 ^ j = m → i < j → x.testBit i = m.testBit i := fun x i e hi => by
      rw [← e, Nat.testBit_mod_two_pow, decide_eq_true hi, Bool.true_and]
    have sub : ∀ x i, x % 2 ^ j = m → m.testBit i = true → x.testBit i = true := fun x i e q => by
      rw [bm x i e (z_bitlt h2 q)]
      exact q
    by_cases c1 : x_ex_isFree n att (nI m) = true
    · rw [if_pos c1]
      by_cases c2 : x_ex_isAttackedBy n att (nI (2 ^ j - (m + 1))) ((nI (2 ^ n - 1)) &&& ((nI (2 ^ j - (m + 1))) ^^^ (-1 : Int32))) = true
      · rw [if_pos c2, if_pos h1]
        by_cases c3 : j = n
        · subst c3
          rw [if_pos rfl]
          have eS : z_stB j att m = true := by
            unfold z_stB
            rw [c1, Bool.true_and]
            have e1 : (nI (2 ^ j - 1)) &&& ((nI m) ^^^ (-1 : Int32)) = nI (2 ^ j - (m + 1)) := z_bi_ext fun i hi => by
              rw [z_bi_and, z_bi_not _ hi, z_allb j (by omega) i hi, z_bitb hi, z_bitb hi, bo]
            have e2 : (nI (2 ^ j - 1)) &&& ((nI (2 ^ j - (m + 1))) ^^^ (-1 : Int32)) = nI m := z_bi_ext fun i hi => by
              rw [z_bi_and, z_bi_not _ hi, z_allb j (by omega) i hi, z_bitb hi, z_bitb hi, bo]
              by_cases l : i < j
              · rw [decide_eq_true l]
                simp
              · rw [decide_eq_false l]
                cases q : m.testBit i with
                | false => rfl
                | true => exact absurd (z_bitlt h2 q) l
            rw [e2] at c2
            rw [e1]
            exact c2
          rw [z_cnt_one (a := m) (2 ^ j) h2 (fun x hx hne => ?_)]
          · rw [Nat.mod_eq_of_lt h2, decide_eq_true rfl, eS]
            rfl
          · rw [Nat.mod_eq_of_lt hx, decide_eq_false hne, Bool.false_and]
        · rw [if_neg c3]
          have hj : j < n := by omega
          have hp8 : (2 : Nat) ^ j ≤ 2 ^ 7 := Nat.pow_le_pow_right (by omega) (by omega)
          have e2 : (2 : Nat) ^ (j + 1) = 2 ^ j + 2 ^ j := by rw [Nat.pow_succ]; omega
          rw [z_sh1 j (by omega), nI_or, nI_or, z_orpow j (by omega) m (by omega) h2, z_orpow j (by omega) (2 ^ j - (m + 1)) (by omega) (by omega)]
          have i1 := ih (j + 1) (m + 2 ^ j) (by omega) (by omega) (by omega)
          have i2 := ih (j + 1) m (by omega) (by omega) (by omega)
          have e3 : 2 ^ (j + 1) - (m + 2 ^ j + 1) = 2 ^ j - (m + 1) := by omega
          have e4 : 2 ^ (j + 1) - (m + 1) = 2 ^ j - (m + 1) + 2 ^ j := by omega
          rw [e3] at i1
          rw [e4] at i2
          rw [i1, i2, nI_add]
          congr 1
          refine (z_cnt_add (2 ^ n) (fun x hx => ?_)).symm
          have em : x % 2 ^ (j + 1) = x % 2 ^ j + 2 ^ j * (x / 2 ^ j % 2) := by rw [Nat.pow_succ, Nat.mod_mul]
          have hx2 : x % 2 ^ j < 2 ^ j := Nat.mod_lt _ (Nat.pow_pos (by omega))
          have h01 : x / 2 ^ j % 2 = 0 ∨ x / 2 ^ j % 2 = 1 := by omega
          cases z_stB n att x with
          | false => simp
          | true =>
            simp only [Bool.and_true]
            rcases h01 with q | q
            · rw [q] at em
              have em : x % 2 ^ (j + 1) = x % 2 ^ j := em.trans (by rw [Nat.mul_zero]; rfl)
              rw [em, decide_eq_false (by omega : ¬ x % 2 ^ j = m + 2 ^ j)]
              simp
            · rw [q, Nat.mul_one] at em
              rw [em]
              have e5 : decide (x % 2 ^ j + 2 ^ j = m + 2 ^ j) = decide (x % 2 ^ j = m) := by
                by_cases l : x % 2 ^ j = m
                · rw [decide_eq_true l, decide_eq_true (by omega)]
                · rw [decide_eq_false l, decide_eq_false (by omega)]
              rw [e5, decide_eq_false (by omega : ¬ x % 2 ^ j + 2 ^ j = m)]
              simp
      · rw [if_neg c2]
        have z : z_cnt (fun x => decide (x % 2 ^ j = m) && z_stB n att x) (2 ^ n) = 0 := z_cnt_zero (2 ^ n) fun x hx => by
          by_cases e : x % 2 ^ j = m
          · rw [decide_eq_true e, Bool.true_and]
            cases q : z_stB n att x with
            | false => rfl
            | true =>
              refine absurd ((z_abyb hn).mpr (fun i hi qi => ?_)) c2
              rw [z_bitb (by omega), bo, Bool.and_eq_true, decide_eq_true_eq] at qi
              have nx : x.testBit i = false := by
                rw [bm x i e qi.1]
                simpa using qi.2
              obtain ⟨a, ha, a1, a2⟩ := ((z_stb hn).mp q).2 i hi nx
              refine ⟨a, ha, a1, ?_⟩
              have han := z_bitlt hx a2
              rw [z_bi_and, z_bi_not _ ha, z_allb n (by omega) a ha, decide_eq_true han, Bool.true_and, z_bitb ha, bo]
              by_cases l : a < j
              · rw [bm x a e l] at a2
                rw [a2]
                simp
              · rw [decide_eq_false l]
                rfl
          · rw [decide_eq_false e, Bool.false_and]
        rw [z]
        rfl
    · rw [if_neg c1]
      have z : z_cnt (fun x => decide (x % 2 ^ j = m) && z_stB n att x) (2 ^ n) = 0 := z_cnt_zero (2 ^ n) fun x hx => by
        by_cases e : x % 2 ^ j = m
        · rw [decide_eq_true e, Bool.true_and]
          cases q : z_stB n att x with
          | false => rfl
          | true =>
            refine absurd ((z_freeb hn).mpr (fun k hk qk a ha qa => ?_)) c1
            rw [z_bitb (by omega)] at qk
            rw [z_bitb ha]
            have g := ((z_stb hn).mp q).1 k hk (sub x k e qk) a ha qa
            cases r : m.testBit a with
            | false => rfl
            | true =>
              rw [sub x a e r] at g
              cases g
        · rw [decide_eq_false e, Bool.false_and]
      rw [z]
      rfl
end STAB
theorem z_stlab {n : Nat} {al att : Nat → Int32} (hn : n ≤ 8) (hA : ∀ j, j < n → x_mo_attackers al n j = att j) : x_ex_countStableByLabels n att = x_mo_stableCount_9 al n (2 ^ n) 0 0 := by
  rw [← z_stabs hn hA]
  have hp : 0 < 2 ^ n := Nat.pow_pos (by omega)
  have e : 2 ^ n - 1 + 1 = 2 ^ n := by omega
  show x_cf n att 9 0 (nI 0) (nI (2 ^ 0 - (0 + 1))) = x_ex_countStable_10 n att (2 ^ n - 1 + 1) 0 0
  rw [z_cf hn 9 0 0 (by omega) (by decide) (by omega), e]
  have h := z_stcnt (n := n) (att := att) (2 ^ n) 0
  rw [Nat.zero_add] at h
  refine Eq.trans ?_ h.symm
  congr 1
  refine z_cnt_congr _ (fun m hm => ?_)
  rw [Nat.pow_zero, Nat.mod_one, decide_eq_true rfl, Bool.true_and]
