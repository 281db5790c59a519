theorem z_R.id {al : Nat → Int32} {s : ZS} (R : z_R al 0 s) {j : Nat} (hj : j < s.1) : al (7 + 3 * j + 0) = s.2.1 j := by
  have h := (R.2.2.2.2.2.2.2.1 j hj).1
  rwa [Nat.zero_add] at h
theorem z_R.wt {al : Nat → Int32} {s : ZS} (R : z_R al 0 s) {j : Nat} (hj : j < s.1) : al (7 + 3 * j + 1) = s.2.2.1 j := by
  have h := (R.2.2.2.2.2.2.2.1 j hj).2.1
  rwa [Nat.zero_add] at h
theorem z_R.ag {al : Nat → Int32} {s : ZS} (R : z_R al 0 s) {j : Nat} (hj : j < s.1) : al (7 + 3 * j + 2) = s.2.2.2.1 j := by
  have h := (R.2.2.2.2.2.2.2.1 j hj).2.2.1
  rwa [Nat.zero_add] at h
theorem z_R.tg {al : Nat → Int32} {s : ZS} (R : z_R al 0 s) {j : Nat} (hj : j < s.1) : al (31 + j) = s.2.2.2.2.1 j := by
  have h := (R.2.2.2.2.2.2.2.1 j hj).2.2.2
  rwa [Nat.zero_add] at h
theorem z_R.mv {al : Nat → Int32} {s : ZS} (R : z_R al 0 s) {p : Nat} (hp : p < s.2.2.2.2.2.2.2.2.1) : al (39 + p) = s.2.2.2.2.2.2.2.2.2.1 p := by
  have h := R.2.2.2.2.2.2.2.2 p hp
  rwa [Nat.zero_add] at h
theorem z_pl2 {al : Nat → Int32} {xid : Int32} : ∀ r k, x_pl_2 al xid r k = 0 ∨ ∃ j, k ≤ j ∧ j < k + r ∧ x_pl_2 al xid r k = j + 1 ∧ al (7 + 3 * j + 0) = xid := by
  intro r
  induction r with
  | zero => exact fun k => Or.inl rfl
  | succ r ih =>
    intro k
    have e2 : x_pl_2 al xid (r + 1) k = if al (7 + 3 * k + 0) = xid then k + 1 else x_pl_2 al xid r (k + 1) := rfl
    by_cases e : al (7 + 3 * k + 0) = xid
    · rw [if_pos e] at e2
      exact Or.inr ⟨k, by omega, by omega, e2, e⟩
    · rw [if_neg e] at e2
      rcases ih (k + 1) with h | ⟨j, a, b, c, d⟩
      · exact Or.inl (e2.trans h)
      · exact Or.inr ⟨j, by omega, by omega, e2.trans c, d⟩
/-- an id: neither side has it, or both have it in one place -/
theorem z_find {al : Nat → Int32} {s : ZS} (R : z_R al 0 s) (xid : Int32) : (x_th s.1 al xid = false ∧ x_pl s.1 al xid = 0 ∧ x_st_slotOfKnown s.1 s.2.1 xid = .inr "java/util/NoSuchElementException") ∨ ∃ v, v < s.1 ∧ x_pl s.1 al xid = v + 1 ∧ x_th s.1 al xid = true ∧ x_st_slotOfKnown s.1 s.2.1 xid = .inl v ∧ s.2.1 v = xid := by
  have e := z_slot (al := al) (id := s.2.1) (xid := xid) (n := s.1) (fun j hj => R.id hj)
  rcases z_pl2 (al := al) (xid := xid) s.1 0 with h | ⟨j, -, b, c, d⟩
  · have h : x_pl s.1 al xid = 0 := h
    refine Or.inl ⟨?_, h, ?_⟩
    · unfold x_th
      rw [h]
      rfl
    · rw [e, if_pos h]
  · have c : x_pl s.1 al xid = j + 1 := c
    refine Or.inr ⟨j, by omega, c, ?_, ?_, ?_⟩
    · unfold x_th
      rw [c]
      exact decide_eq_true (by omega)
    · rw [e, c, if_neg (by omega), Nat.add_sub_cancel]
    · rw [← R.id (by omega : j < s.1)]
      exact d
theorem z_sh1 : ∀ k, k < 8 → (1 : Int32) <<< ((nI k) &&& 31) = nI (2 ^ k) := by decide +kernel
theorem z_fab {wt ag tg : Nat → Int32} {j n : Nat} (hn : n ≤ 8) : ∀ r k (m : Nat), k + r = n → m < 2 ^ k → ∃ m', m' < 2 ^ n ∧ x_st_findAttackers_17 wt ag tg j r k (nI m) = nI m' := by
  intro r
  induction r with
  | zero =>
    intro k m hk hm
    have e : k = n := by omega
    subst e
    exact ⟨m, hm, rfl⟩
  | succ r ih =>
    intro k m hk hm
    have u2 : x_st_findAttackers_17 wt ag tg j (r + 1) k (nI m) = if z_has (tg k) j then (if x_st_strength wt ag k < x_st_strength wt ag j then x_st_findAttackers_17 wt ag tg j r (k + 1) (nI m) else x_st_findAttackers_17 wt ag tg j r (k + 1) (nI m ||| ((1 : Int32) <<< ((nI k) &&& 31)))) else x_st_findAttackers_17 wt ag tg j r (k + 1) (nI m) := rfl
    have hlt : m < 2 ^ (k + 1) := Nat.lt_of_lt_of_le hm (Nat.pow_le_pow_right (by omega) (by omega))
    have h1 := ih (k + 1) m (by omega) hlt
    have h2 := ih (k + 1) (m ||| 2 ^ k) (by omega) (Nat.or_lt_two_pow hlt (Nat.pow_lt_pow_right (by omega) (by omega)))
    rw [u2, z_sh1 k (by omega), nI_or]
    split
    · split
      · exact h1
      · exact h2
    · exact h1
theorem z_wfB.tg {B : Nat} {s : ZS} (W : z_wfB B s) {j : Nat} (hj : j < s.1) : ∃ m, m < 256 ∧ s.2.2.2.2.1 j = nI m := by
  obtain ⟨m, h, e⟩ := W.2.2.2.2.2.2.1 j hj
  exact ⟨m, Nat.lt_of_lt_of_le h (Nat.pow_le_pow_right (n := 2) (by omega) W.1), e⟩
theorem z_wfB.att {B : Nat} {s : ZS} (W : z_wfB B s) {j : Nat} (hj : j < s.1) : ∃ m, m < 2 ^ s.1 ∧ s.2.2.2.2.2.1 j = nI m := by
  rw [W.2.2.2.2.2.2.2.1 j hj]
  exact z_fab W.1 s.1 0 0 (by omega) (by decide)
theorem z_wfB.att8 {B : Nat} {s : ZS} (W : z_wfB B s) {j : Nat} (hj : j < s.1) : ∃ m, m < 256 ∧ s.2.2.2.2.2.1 j = nI m := by
  obtain ⟨m, h, e⟩ := W.att hj
  exact ⟨m, Nat.lt_of_lt_of_le h (Nat.pow_le_pow_right (n := 2) (by omega) W.1), e⟩
theorem z_WR {B : Nat} {al : Nat → Int32} {s : ZS} (W : z_wfB B s) (R : z_R al 0 s) : ∀ i, i < s.1 → al (7 + 3 * i + 1) = s.2.2.1 i ∧ al (7 + 3 * i + 2) = s.2.2.2.1 i ∧ al (31 + i) = s.2.2.2.2.1 i ∧ ∃ m, m < 256 ∧ s.2.2.2.2.1 i = nI m :=
  fun i hi => ⟨R.wt hi, R.ag hi, R.tg hi, W.tg hi⟩
/-- the class's attackers are the reference's -/
theorem z_att {B : Nat} {al : Nat → Int32} {s : ZS} (W : z_wfB B s) (R : z_R al 0 s) {j : Nat} (hj : j < s.1) : x_mo_attackers al s.1 j = s.2.2.2.2.2.1 j := by
  rw [W.2.2.2.2.2.2.2.1 j hj]
  exact z_fa hj W.1 (z_WR W R)
theorem z_str {al : Nat → Int32} {s : ZS} (R : z_R al 0 s) {j : Nat} (hj : j < s.1) : x_mo_strength al j = x_st_strength s.2.2.1 s.2.2.2.1 j := z_streq (R.wt hj) (R.ag hj)
theorem z_atksz {B : Nat} {al : Nat → Int32} {s : ZS} (W : z_wfB B s) (R : z_R al 0 s) {j : Nat} (hj : j < s.1) : x_mo_size (x_mo_attackers al s.1 j) = z_bc (s.2.2.2.2.2.1 j) := by
  obtain ⟨m, h, e⟩ := W.att8 hj
  rw [z_att W R hj, e]
  exact z_size m h
theorem z_isAtt {al : Nat → Int32} {s : ZS} (R : z_R al 0 s) {i j : Nat} (hi : i < s.1) (hj : j < 8) : x_mo_isAttack al i j = z_has (s.2.2.2.2.1 i) j := by
  unfold x_mo_isAttack
  rw [R.tg hi, z_has_bt _ (by omega)]
  cases q : z_bi (s.2.2.2.2.1 i) j with
  | true => rw [if_pos ((z_bit1 _ (by omega)).mpr q)]
  | false => rw [if_neg (fun c => by
      have t := (z_bit1 _ (by omega)).mp c
      rw [q] at t
      cases t)]
theorem z_in_ge {x : Int32} {n : Nat} (hn : n < 2 ^ 30) : x_mo_in x 0 (nI n - 1) = true ↔ ¬ x < 0 ∧ x < nI n := by
  have key : ∀ j, j < 2 ^ 31 → (nI n - 1 < nI j ↔ ¬ nI j < nI n) := by
    intro j hj
    by_cases h0 : 0 < n
    · have e : nI n - 1 = nI (n - 1) := by
        have := nI_pred (n - 1)
        rwa [Nat.sub_add_cancel h0] at this
      rw [e, nI_ltI (by omega) hj, nI_ltI hj (by omega)]
      omega
    · have e0 : n = 0 := by omega
      subst e0
      rw [nI_ltI hj (by omega)]
      constructor
      · intro _
        omega
      · intro _
        have h1 : (0 : Int32) ≤ nI j := nI_pos' hj
        exact Int32.lt_of_lt_of_le (by decide) h1
  unfold x_mo_in
  by_cases h : x < 0
  · rw [if_pos h]
    exact ⟨fun c => (by cases c), fun c => absurd h c.1⟩
  · rw [if_neg h]
    obtain ⟨j, hj, rfl⟩ := nI_of h
    by_cases h2 : nI n - 1 < nI j
    · rw [if_pos h2]
      exact ⟨fun c => (by cases c), fun c => absurd c.2 ((key j hj).mp h2)⟩
    · rw [if_neg h2]
      refine ⟨fun _ => ⟨h, ?_⟩, fun _ => rfl⟩
      exact Classical.byContradiction fun c => h2 ((key j hj).mpr c)
theorem z_attb4 {al : Nat → Int32} {j : Nat} : ∀ r k c i, k + r ≤ 8 → i < 32 → z_bi (x_mo_attackers_4 al j r k c) i = (z_bi c i || (decide (k ≤ i ∧ i < k + r) && x_mo_wins al i j)) := by
  intro r
  induction r with
  | zero =>
    intro k c i _ _
    have e : decide (k ≤ i ∧ i < k + 0) = false := decide_eq_false (by omega)
    rw [e, Bool.false_and, Bool.or_false]
    rfl
  | succ r ih =>
    intro k c i hk hi
    have u1 : x_mo_attackers_4 al j (r + 1) k c = if x_mo_wins al k j then x_mo_attackers_4 al j r (k + 1) (c ||| ((1 : Int32) <<< ((nI k) &&& 31))) else x_mo_attackers_4 al j r (k + 1) (c ||| (0 : Int32)) := rfl
    rw [u1]
    by_cases e : i = k
    · subst e
      have d1 : decide (i + 1 ≤ i ∧ i < i + 1 + r) = false := decide_eq_false (by omega)
      have d2 : decide (i ≤ i ∧ i < i + (r + 1)) = true := decide_eq_true (by omega)
      rw [d2, Bool.true_and]
      cases q : x_mo_wins al i j with
      | true =>
        rw [if_pos rfl, ih _ _ _ (by omega) hi, z_bi_or, z_bi_shl hi hi, d1, decide_eq_true rfl]
        simp
      | false =>
        rw [if_neg Bool.false_ne_true, ih _ _ _ (by omega) hi, z_bi_or, z_bi_0, d1]
        simp
    · have d1 : decide (k + 1 ≤ i ∧ i < k + 1 + r) = decide (k ≤ i ∧ i < k + (r + 1)) := by
        by_cases l : k + 1 ≤ i ∧ i < k + 1 + r
        · rw [decide_eq_true l, decide_eq_true (by omega)]
        · rw [decide_eq_false l, decide_eq_false (by omega)]
      cases q : x_mo_wins al k j with
      | true =>
        rw [if_pos rfl, ih _ _ _ (by omega) hi, z_bi_or, z_bi_shl (by omega) hi, d1, decide_eq_false e]
        simp
      | false =>
        rw [if_neg Bool.false_ne_true, ih _ _ _ (by omega) hi, z_bi_or, z_bi_0, d1]
        simp
theorem z_attb {al : Nat → Int32} {n k j : Nat} (hk : k < n) (hn : n ≤ 8) : z_bi (x_mo_attackers al n j) k = x_mo_wins al k j := by
  have h := z_attb4 (al := al) (j := j) n 0 0 k (by omega) (by omega)
  rw [z_bi_0, decide_eq_true (by omega), Bool.true_and, Bool.false_or] at h
  exact h
