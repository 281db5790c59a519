theorem z_nand (a b : Nat) : nI a &&& nI b = nI (a &&& b) := z_bi_ext fun j hj => by
  rw [z_bi_and, z_bitb hj, z_bitb hj, z_bitb hj, Nat.testBit_and]
theorem z_supI {a b : Nat} (ha : a < 2 ^ 31) (hb : b < 2 ^ 31) : nI a &&& nI b = nI b ↔ a &&& b = b := by
  rw [z_nand, nI_eq (Nat.lt_of_le_of_lt Nat.and_le_left ha) hb]
section PREF
variable {D : Nat → Bool} {n : Nat}
/-- a set with all of m, and others, is admissible -/
def z_gcov (D : Nat → Bool) (n m : Nat) : Prop := ∃ x, x < 2 ^ n ∧ x &&& m = m ∧ x ≠ m ∧ D x = true
def z_prf (D : Nat → Bool) (n m : Nat) : Prop := D m = true ∧ ¬ z_gcov D n m
def z_cvd (D : Nat → Bool) (n m : Nat) : Prop := D m = true ∨ z_gcov D n m
theorem z_supb {x m : Nat} : x &&& m = m ↔ ∀ i, m.testBit i = true → x.testBit i = true := by
  constructor
  · intro h i q
    rw [← h, Nat.testBit_and, Bool.and_eq_true] at q
    exact q.1
  · intro h
    refine Nat.eq_of_testBit_eq fun i => ?_
    rw [Nat.testBit_and]
    cases q : m.testBit i with
    | false => exact Bool.and_false _
    | true => rw [h i q]; rfl
theorem z_2pw (k i : Nat) : (2 ^ k).testBit i = decide (k = i) := Nat.testBit_two_pow
theorem z_gcov_step {m : Nat} (hm : m < 2 ^ n) : z_gcov D n m ↔ ∃ k, k < n ∧ m.testBit k = false ∧ z_cvd D n (m ||| 2 ^ k) := by
  constructor
  · rintro ⟨x, hx, hs, hne, hd⟩
    have hb := z_supb.mp hs
    have : ∃ k, x.testBit k = true ∧ m.testBit k = false := by
      refine Classical.byContradiction fun c => hne (Nat.eq_of_testBit_eq fun i => ?_)
      cases q : m.testBit i with
      | true => exact hb i q
      | false =>
        cases q2 : x.testBit i with
        | false => rfl
        | true => exact absurd ⟨i, q2, q⟩ c
    obtain ⟨k, k1, k2⟩ := this
    refine ⟨k, z_bitlt hx k1, k2, ?_⟩
    have hsup : x &&& (m ||| 2 ^ k) = m ||| 2 ^ k := z_supb.mpr fun i q => by
      rw [Nat.testBit_or, z_2pw, Bool.or_eq_true, decide_eq_true_eq] at q
      rcases q with q | q
      · exact hb i q
      · rw [← q]
        exact k1
    by_cases e : x = m ||| 2 ^ k
    · rw [← e]
      exact Or.inl hd
    · exact Or.inr ⟨x, hx, hsup, e, hd⟩
  · rintro ⟨k, hk, k2, h⟩
    have hb : ∀ i, m.testBit i = true → (m ||| 2 ^ k).testBit i = true := fun i q => by
      rw [Nat.testBit_or, q]
      rfl
    have hk1 : (m ||| 2 ^ k).testBit k = true := by
      rw [Nat.testBit_or, z_2pw, decide_eq_true rfl, Bool.or_true]
    rcases h with h | ⟨x, hx, hs, hne, hd⟩
    · refine ⟨m ||| 2 ^ k, Nat.or_lt_two_pow hm (Nat.pow_lt_pow_right (by omega) hk), z_supb.mpr hb, fun c => ?_, h⟩
      rw [c, k2] at hk1
      cases hk1
    · have hb2 := z_supb.mp hs
      refine ⟨x, hx, z_supb.mpr (fun i q => hb2 i (hb i q)), fun c => ?_, hd⟩
      have := hb2 k hk1
      rw [c, k2] at this
      cases this
theorem z_cbg2 {cv : Nat → Int32} {m : Nat} (hn : n ≤ 8) : ∀ r k, k + r = 8 → (x_ex_isCoveredByGreater_2 cv m (2 ^ n - 1) r k = .inl () ∧ ∀ i, k ≤ i → i < n → m.testBit i = false → cv (m ||| 2 ^ i) = 0) ∨ (x_ex_isCoveredByGreater_2 cv m (2 ^ n - 1) r k = .inr true ∧ ∃ i, i < n ∧ m.testBit i = false ∧ ¬ cv (m ||| 2 ^ i) = 0) := by
  intro r
  induction r with
  | zero =>
    intro k hk
    exact Or.inl ⟨rfl, fun i h1 h2 => by omega⟩
  | succ r ih =>
    intro k hk
    simp only [x_ex_isCoveredByGreater_2]
    rw [z_has_bt _ (by omega), z_bi_and, z_bi_not _ (by omega), z_allb n (by omega) k (by omega), z_bitb (by omega)]
    have more : (¬ (k < n ∧ m.testBit k = false) ∨ cv (m ||| 2 ^ k) = 0) → (x_ex_isCoveredByGreater_2 cv m (2 ^ n - 1) r (k + 1) = .inl () ∧ ∀ i, k ≤ i → i < n → m.testBit i = false → cv (m ||| 2 ^ i) = 0) ∨ (x_ex_isCoveredByGreater_2 cv m (2 ^ n - 1) r (k + 1) = .inr true ∧ ∃ i, i < n ∧ m.testBit i = false ∧ ¬ cv (m ||| 2 ^ i) = 0) := by
      intro h0
      rcases ih (k + 1) (by omega) with ⟨a, b⟩ | z
      · refine Or.inl ⟨a, fun i h1 h2 h3 => ?_⟩
        by_cases e : i = k
        · subst e
          rcases h0 with q | q
          · exact absurd ⟨h2, h3⟩ q
          · exact q
        · exact b i (by omega) h2 h3
      · exact Or.inr z
    by_cases e : (decide (k < n) && !m.testBit k) = true
    · rw [if_pos e]
      rw [Bool.and_eq_true, decide_eq_true_eq] at e
      have e2 : m.testBit k = false := by simpa using e.2
      by_cases q : cv (m ||| 2 ^ k) = 0
      · rw [if_pos q]
        exact more (Or.inr q)
      · rw [if_neg q]
        exact Or.inr ⟨rfl, k, e.1, e2, q⟩
    · rw [if_neg e]
      refine more (Or.inl fun c => e ?_)
      rw [decide_eq_true c.1, c.2]
      rfl
theorem z_cbg {cv : Nat → Int32} {m : Nat} (hn : n ≤ 8) : x_ex_isCoveredByGreater cv m (2 ^ n - 1) = true ↔ ∃ i, i < n ∧ m.testBit i = false ∧ ¬ cv (m ||| 2 ^ i) = 0 := by
  unfold x_ex_isCoveredByGreater
  rcases z_cbg2 (cv := cv) (m := m) hn 8 0 (by omega) with ⟨a, b⟩ | ⟨a, b⟩
  · rw [a]
    exact ⟨fun c => (by cases c), fun ⟨i, h1, h2, h3⟩ => absurd (b i (Nat.zero_le i) h1 h2) h3⟩
  · rw [a]
    exact ⟨fun _ => b, fun _ => rfl⟩
def z_fd (D : Nat → Bool) (n r : Nat) (cv pf : Nat → Int32) : Prop := ∀ m, r ≤ m → m < 2 ^ n → (¬ cv m = 0 ↔ z_cvd D n m) ∧ (¬ pf m = 0 ↔ z_prf D n m)
theorem z_find14 {att : Nat → Int32} (hn : n ≤ 8) (hD : ∀ m, m < 2 ^ n → x_ex_isAdmissible n att (nI m) = D m) : ∀ r k cv pf, r ≤ 2 ^ n → z_fd D n r cv pf → z_fd D n 0 (x_ex_find_14 n att r k cv pf).1 (x_ex_find_14 n att r k cv pf).2 := by
  intro r
  induction r with
  | zero =>
    intro k cv pf _ h
    exact h
  | succ r ih =>
    intro k cv pf hr h
    simp only [x_ex_find_14]
    rw [hD r (by omega)]
    have hc : x_ex_isCoveredByGreater cv r (2 ^ n - 1) = true ↔ z_gcov D n r := by
      rw [z_cbg hn, z_gcov_step (by omega : r < 2 ^ n)]
      constructor
      · rintro ⟨i, h1, h2, h3⟩
        refine ⟨i, h1, h2, ?_⟩
        have hlt : r ||| 2 ^ i < 2 ^ n := Nat.or_lt_two_pow (by omega) (Nat.pow_lt_pow_right (by omega) h1)
        have hge : r ≤ r ||| 2 ^ i := Nat.left_le_or
        have hne : r ≠ r ||| 2 ^ i := fun c => by
          have : (r ||| 2 ^ i).testBit i = true := by rw [Nat.testBit_or, z_2pw, decide_eq_true rfl, Bool.or_true]
          rw [← c, h2] at this
          cases this
        exact (h (r ||| 2 ^ i) (by omega) hlt).1.mp h3
      · rintro ⟨i, h1, h2, h3⟩
        refine ⟨i, h1, h2, ?_⟩
        have hlt : r ||| 2 ^ i < 2 ^ n := Nat.or_lt_two_pow (by omega) (Nat.pow_lt_pow_right (by omega) h1)
        have hge : r ≤ r ||| 2 ^ i := Nat.left_le_or
        have hne : r ≠ r ||| 2 ^ i := fun c => by
          have : (r ||| 2 ^ i).testBit i = true := by rw [Nat.testBit_or, z_2pw, decide_eq_true rfl, Bool.or_true]
          rw [← c, h2] at this
          cases this
        exact (h (r ||| 2 ^ i) (by omega) hlt).1.mpr h3
    have step : ∀ a b : Int32, (¬ a = 0 ↔ z_cvd D n r) → (¬ b = 0 ↔ z_prf D n r) → z_fd D n r (upd cv r a) (upd pf r b) := by
      intro a b ha hb m hm hm2
      by_cases e : m = r
      · subst e
        rw [upd_eq, upd_eq]
        exact ⟨ha, hb⟩
      · rw [upd_ne e, upd_ne e]
        exact h m (by omega) hm2
    have n1 : ¬ (1 : Int32) = 0 := by decide
    by_cases d : D r = true
    · rw [if_pos d]
      by_cases c : x_ex_isCoveredByGreater cv r (2 ^ n - 1) = true
      · rw [if_pos c]
        have g := hc.mp c
        exact ih _ _ _ (by omega) (step 1 0 ⟨fun _ => Or.inl d, fun _ => n1⟩ ⟨fun q => absurd rfl q, fun q => absurd g q.2⟩)
      · rw [if_neg c]
        have g : ¬ z_gcov D n r := fun q => c (hc.mpr q)
        exact ih _ _ _ (by omega) (step 1 1 ⟨fun _ => Or.inl d, fun _ => n1⟩ ⟨fun _ => ⟨d, g⟩, fun _ => n1⟩)
    · rw [if_neg d]
      by_cases c : x_ex_isCoveredByGreater cv r (2 ^ n - 1) = true
      · rw [if_pos c]
        have g := hc.mp c
        exact ih _ _ _ (by omega) (step 1 0 ⟨fun _ => Or.inr g, fun _ => n1⟩ ⟨fun q => absurd rfl q, fun q => absurd q.1 d⟩)
      · rw [if_neg c]
        have g : ¬ z_gcov D n r := fun q => c (hc.mpr q)
        exact ih _ _ _ (by omega) (step 0 0 ⟨fun q => absurd rfl q, fun q => (q.elim (fun q => absurd q d) (fun q => absurd q g))⟩ ⟨fun q => absurd rfl q, fun q => absurd q.1 d⟩)
theorem z_isp9 {ad : Nat → Int32} {m : Nat} (hn : n ≤ 8) (hm : m < 2 ^ n) : ∀ r k c, k + r = 2 ^ n → (¬ x_mo_isPreferred_9 ad m r k c = 0 ↔ ¬ c = 0 ∧ ∀ x, k ≤ x → x < 2 ^ n → x ≠ m → x &&& m = m → ad x = 0) := by
  have hp : (2 : Nat) ^ n ≤ 256 := Nat.pow_le_pow_right (n := 2) (by omega) hn
  have n1 : ¬ (1 : Int32) = 0 := by decide
  intro r
  induction r with
  | zero =>
    intro k c hk
    simp only [x_mo_isPreferred_9]
    exact ⟨fun h => ⟨h, fun x h1 h2 => by omega⟩, fun h => h.1⟩
  | succ r ih =>
    intro k c hk
    simp only [x_mo_isPreferred_9]
    by_cases c0 : c = 0
    · rw [if_pos c0]
      exact ⟨fun h => absurd c0 h, fun h => absurd c0 h.1⟩
    · rw [if_neg c0]
      have more : (k ≠ m → k &&& m = m → ad k = 0) → ((¬ x_mo_isPreferred_9 ad m r (k + 1) 1 = 0) ↔ ¬ c = 0 ∧ ∀ x, k ≤ x → x < 2 ^ n → x ≠ m → x &&& m = m → ad x = 0) := by
        intro h0
        rw [ih (k + 1) 1 (by omega)]
        constructor
        · rintro ⟨-, h⟩
          refine ⟨c0, fun x h1 h2 h3 h4 => ?_⟩
          by_cases e : x = k
          · subst e
            exact h0 h3 h4
          · exact h x (by omega) h2 h3 h4
        · rintro ⟨-, h⟩
          exact ⟨n1, fun x h1 h2 h3 h4 => h x (by omega) h2 h3 h4⟩
      by_cases e : k = m
      · rw [if_pos e]
        exact more (fun q => absurd e q)
      · rw [if_neg e]
        have hs := z_supI (a := k) (b := m) (by omega) (by omega)
        by_cases e2 : nI k &&& nI m = nI m
        · rw [if_pos e2]
          by_cases e3 : ad k = 0
          · rw [if_pos e3]
            exact more (fun _ _ => e3)
          · rw [if_neg e3, ih (k + 1) 0 (by omega)]
            exact ⟨fun h => absurd rfl h.1, fun h => absurd (h.2 k (by omega) (by omega) e (hs.mp e2)) e3⟩
        · rw [if_neg e2]
          exact more (fun _ q => absurd (hs.mpr q) e2)
theorem z_isp {ad : Nat → Int32} {m : Nat} (hn : n ≤ 8) (hm : m < 2 ^ n) (had : ∀ x, x < 2 ^ n → ad x = z_b (D x)) : ¬ x_mo_isPreferred ad n m = 0 ↔ z_prf D n m := by
  refine (z_isp9 (ad := ad) hn hm (2 ^ n) 0 (ad m) (by omega)).trans ?_
  have hb : ∀ x, x < 2 ^ n → (ad x = 0 ↔ D x = false) := fun x hx => by
    rw [had x hx]
    cases D x with
    | false => exact ⟨fun _ => rfl, fun _ => rfl⟩
    | true => exact ⟨fun c => absurd c (by decide), fun c => (by cases c)⟩
  constructor
  · rintro ⟨h1, h2⟩
    refine ⟨?_, ?_⟩
    · cases q : D m with
      | true => rfl
      | false => exact absurd ((hb m hm).mpr q) h1
    · rintro ⟨x, hx, hs, hne, hd⟩
      have := (hb x hx).mp (h2 x (Nat.zero_le x) hx hne hs)
      rw [this] at hd
      cases hd
  · rintro ⟨h1, h2⟩
    refine ⟨fun c => ?_, fun x _ hx hne hs => ?_⟩
    · rw [(hb m hm).mp c] at h1
      cases h1
    · refine (hb x hx).mpr ?_
      cases q : D x with
      | false => rfl
      | true => exact absurd ⟨x, hx, hs, hne, q⟩ h2
theorem z_pw4 {pf ad : Nat → Int32} {xs : Int32} (hn : n ≤ 8) (had : ∀ x, x < 2 ^ n → ad x = z_b (D x)) (hpf : ∀ m, m < 2 ^ n → (¬ pf m = 0 ↔ z_prf D n m)) : ∀ r k c, k + r = 2 ^ n → x_ex_countPreferredWith_4 pf xs r k c = x_mo_preferredWith_8 n xs ad r k c := by
  intro r
  induction r with
  | zero =>
    intro k c _
    rfl
  | succ r ih =>
    intro k c hk
    simp only [x_ex_countPreferredWith_4, x_mo_preferredWith_8]
    rw [Int32.add_zero, ih _ _ (by omega), ih _ _ (by omega)]
    have h1 := hpf k (by omega)
    have h2 := z_isp (D := D) (ad := ad) hn (by omega : k < 2 ^ n) had
    by_cases e : pf k = 0
    · have e2 : x_mo_isPreferred ad n k = 0 := Classical.byContradiction fun c => absurd e (h1.mpr (h2.mp c))
      rw [if_pos e, if_pos e2]
      split <;> rfl
    · have e2 : ¬ x_mo_isPreferred ad n k = 0 := h2.mpr (h1.mp e)
      rw [if_neg e, if_neg e2]
end PREF
theorem z_fadm2 {al : Nat → Int32} {n : Nat} : ∀ r k ad x, x_mo_findsAdmissible_2 al n r k ad x = if k ≤ x ∧ x < k + r then z_b (x_mo_isAdmissible al n (nI x)) else ad x := by
  intro r
  induction r with
  | zero =>
    intro k ad x
    rw [if_neg (by omega)]
    rfl
  | succ r ih =>
    intro k ad x
    show x_mo_findsAdmissible_2 al n r (k + 1) (upd ad k (z_b (x_mo_isAdmissible al n (nI k)))) x = _
    rw [ih]
    by_cases e : x = k
    · subst e
      rw [if_neg (by omega), upd_eq, if_pos (by omega)]
    · rw [upd_ne e]
      by_cases l : k + 1 ≤ x ∧ x < k + 1 + r
      · rw [if_pos l, if_pos (by omega)]
      · rw [if_neg l, if_neg (by omega)]
theorem z_fadm {al ad : Nat → Int32} {n x : Nat} (hx : x < 2 ^ n) : x_mo_findsAdmissible al ad n x = z_b (x_mo_isAdmissible al n (nI x)) := by
  refine (z_fadm2 (2 ^ n) 0 ad x).trans ?_
  rw [if_pos (by omega)]
theorem z_fadm01 {al ad : Nat → Int32} {n : Nat} (h : z_01 ad) : z_01 (x_mo_findsAdmissible al ad n) := by
  intro x
  rw [show x_mo_findsAdmissible al ad n x = _ from z_fadm2 (2 ^ n) 0 ad x]
  split
  · cases x_mo_isAdmissible al n (nI x)
    · exact Or.inl rfl
    · exact Or.inr rfl
  · exact h x
/-- the counts of preferred sets -/
theorem z_prefW {al att ad pf cv : Nat → Int32} {n : Nat} (hn : n ≤ 8) (hA : ∀ j, j < n → x_mo_attackers al n j = att j) (hb : ∀ j, j < n → z_sub n 0 (att j)) (xs : Int32) : x_ex_countPreferredWith (x_ex_find pf cv n att).1 (x_ex_find pf cv n att).2.2 xs = (x_mo_preferredWith al ad n xs).1 := by
  have hp : 0 < 2 ^ n := Nat.pow_pos (by omega)
  have e : 2 ^ n - 1 + 1 = 2 ^ n := by omega
  have h := z_find14 (D := fun m => x_mo_isAdmissible al n (nI m)) hn (fun m _ => z_adm hn hA hb (nI m)) (2 ^ n) 0 cv pf (Nat.le_refl _) (fun m h1 h2 => by omega)
  have u1 : (x_ex_find pf cv n att).1 = (x_ex_find_14 n att (2 ^ n - 1 + 1) 0 cv pf).2 := rfl
  have u2 : (x_ex_find pf cv n att).2.2 = 2 ^ n - 1 + 1 := rfl
  rw [u1, u2, e]
  show x_ex_countPreferredWith_4 (x_ex_find_14 n att (2 ^ n) 0 cv pf).2 xs (2 ^ n) 0 0 = x_mo_preferredWith_8 n xs (x_mo_findsAdmissible al ad n) (2 ^ n) 0 0
  exact z_pw4 (D := fun m => x_mo_isAdmissible al n (nI m)) hn (fun x hx => z_fadm hx) (fun m hm => (h m (Nat.zero_le m) hm).2) (2 ^ n) 0 0 (by omega)
