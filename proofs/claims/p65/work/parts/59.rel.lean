/-- row o / 51 of the reference's table tells of s -/
def z_R (al : Nat → Int32) (o : Nat) (s : ZS) : Prop :=
  al (o + 0) = nI s.1 ∧ al (o + 1) = s.2.2.2.2.2.2.1 ∧ al (o + 2) = s.2.2.2.2.2.2.2.1 ∧ al (o + 3) = nI s.2.2.2.2.2.2.2.2.1 ∧ al (o + 4) = s.2.2.2.2.2.2.2.2.2.2.1 ∧ al (o + 5) = s.2.2.2.2.2.2.2.2.2.2.2.1 ∧ al (o + 6) = s.2.2.2.2.2.2.2.2.2.2.2.2 ∧
  (∀ j, j < s.1 → al (o + (7 + 3 * j + 0)) = s.2.1 j ∧ al (o + (7 + 3 * j + 1)) = s.2.2.1 j ∧ al (o + (7 + 3 * j + 2)) = s.2.2.2.1 j ∧ al (o + (31 + j)) = s.2.2.2.2.1 j) ∧
  ∀ p, p < s.2.2.2.2.2.2.2.2.1 → al (o + (39 + p)) = s.2.2.2.2.2.2.2.2.2.1 p
theorem z_slot2 {al id : Nat → Int32} {xid : Int32} {n : Nat} (h : ∀ j, j < n → al (7 + 3 * j + 0) = id j) : ∀ r k, k + r = n → x_st_slotOfKnown_2 id xid r k = if x_pl_2 al xid r k = 0 then .inl () else .inr (.inl (x_pl_2 al xid r k - 1)) := by
  intro r
  induction r with
  | zero =>
    intro k _
    rfl
  | succ r ih =>
    intro k hk
    have e2 : x_pl_2 al xid (r + 1) k = if al (7 + 3 * k + 0) = xid then k + 1 else x_pl_2 al xid r (k + 1) := rfl
    have e1 : x_st_slotOfKnown_2 id xid (r + 1) k = if id k = xid then .inr (.inl k) else x_st_slotOfKnown_2 id xid r (k + 1) := rfl
    rw [h k (by omega)] at e2
    by_cases e : id k = xid
    · rw [if_pos e] at e1 e2
      rw [e1, e2, if_neg (Nat.succ_ne_zero k), Nat.add_sub_cancel]
    · rw [if_neg e] at e1 e2
      rw [e1, e2]
      exact ih (k + 1) (by omega)
theorem z_slot {al id : Nat → Int32} {xid : Int32} {n : Nat} (h : ∀ j, j < n → al (7 + 3 * j + 0) = id j) : x_st_slotOfKnown n id xid = if x_pl n al xid = 0 then .inr "java/util/NoSuchElementException" else .inl (x_pl n al xid - 1) := by
  unfold x_st_slotOfKnown x_pl
  rw [z_slot2 h n 0 (by omega)]
  by_cases e : x_pl_2 al xid n 0 = 0
  · rw [if_pos e, if_pos e]
  · rw [if_neg e, if_neg e]
theorem z_streq {al wt ag : Nat → Int32} {j : Nat} (h1 : al (7 + 3 * j + 1) = wt j) (h2 : al (7 + 3 * j + 2) = ag j) : x_mo_strength al j = x_st_strength wt ag j := by
  unfold x_mo_strength x_st_strength
  rw [h1, h2]
theorem z_size : ∀ m, m < 256 → x_mo_size (nI m) = z_bc (nI m) := by decide +kernel
theorem z_atk4 {al tg : Nat → Int32} {n : Nat} (h : ∀ j, j < n → al (31 + j) = tg j ∧ ∃ m, m < 256 ∧ tg j = nI m) : ∀ r k c, k + r = n → x_mo_attacks_4 al r k c = x_st_countAttacks_4 tg r k c := by
  intro r
  induction r with
  | zero =>
    intro k c _
    rfl
  | succ r ih =>
    intro k c hk
    obtain ⟨e1, m, hm, e2⟩ := h k (by omega)
    show x_mo_attacks_4 al r (k + 1) (c + x_mo_size (al (31 + k))) = x_st_countAttacks_4 tg r (k + 1) (c + z_bc (tg k))
    rw [e1, e2, z_size m hm]
    exact ih (k + 1) _ (by omega)
theorem z_atk {al tg : Nat → Int32} {n : Nat} (h : ∀ j, j < n → al (31 + j) = tg j ∧ ∃ m, m < 256 ∧ tg j = nI m) : x_mo_attacks al n = x_st_countAttacks n tg := z_atk4 h n 0 0 (by omega)
theorem z_fa17 {al wt ag tg : Nat → Int32} {n j : Nat} (hj : j < n) (hn : n ≤ 8) (h : ∀ i, i < n → al (7 + 3 * i + 1) = wt i ∧ al (7 + 3 * i + 2) = ag i ∧ al (31 + i) = tg i ∧ ∃ m, m < 256 ∧ tg i = nI m) : ∀ r k c, k + r = n → x_mo_attackers_4 al j r k c = x_st_findAttackers_17 wt ag tg j r k c := by
  intro r
  induction r with
  | zero =>
    intro k c _
    rfl
  | succ r ih =>
    intro k c hk
    obtain ⟨e1, e2, e3, m, hm, e4⟩ := h k (by omega)
    obtain ⟨f1, f2, -, -⟩ := h j hj
    have hb : x_mo_isAttack al k j = z_has (tg k) j := by
      unfold x_mo_isAttack z_has
      rw [e3]
      cases q : z_bi (tg k) j with
      | true =>
        rw [if_pos ((z_bit1 _ (by omega)).mpr q), decide_eq_false (fun c => by
          have t := (z_bit0 _ (by omega)).mp c
          rw [q] at t
          cases t)]
        rfl
      | false =>
        rw [if_neg (fun c => by
          have t := (z_bit1 _ (by omega)).mp c
          rw [q] at t
          cases t), decide_eq_true ((z_bit0 _ (by omega)).mpr q)]
        rfl
    have u1 : x_mo_attackers_4 al j (r + 1) k c = if x_mo_wins al k j then x_mo_attackers_4 al j r (k + 1) (c ||| ((1 : Int32) <<< ((nI k) &&& 31))) else x_mo_attackers_4 al j r (k + 1) (c ||| (0 : Int32)) := rfl
    have u2 : x_st_findAttackers_17 wt ag tg j (r + 1) k c = if z_has (tg k) j then (if x_st_strength wt ag k < x_st_strength wt ag j then x_st_findAttackers_17 wt ag tg j r (k + 1) c else x_st_findAttackers_17 wt ag tg j r (k + 1) (c ||| ((1 : Int32) <<< ((nI k) &&& 31)))) else x_st_findAttackers_17 wt ag tg j r (k + 1) c := rfl
    rw [u1, u2, ih (k + 1) _ (by omega), ih (k + 1) _ (by omega), Int32.or_zero]
    unfold x_mo_wins
    rw [hb, z_streq e1 e2, z_streq f1 f2]
    by_cases a : z_has (tg k) j = true
    · rw [if_pos a, if_pos a]
      by_cases b : x_st_strength wt ag k < x_st_strength wt ag j
      · rw [if_pos b, if_pos b]
        rfl
      · rw [if_neg b, if_neg b]
        rfl
    · rw [if_neg a, if_neg a]
      rfl
theorem z_fa {al wt ag tg : Nat → Int32} {n j : Nat} (hj : j < n) (hn : n ≤ 8) (h : ∀ i, i < n → al (7 + 3 * i + 1) = wt i ∧ al (7 + 3 * i + 2) = ag i ∧ al (31 + i) = tg i ∧ ∃ m, m < 256 ∧ tg i = nI m) : x_mo_attackers al n j = x_st_findAttackers_17 wt ag tg j n 0 0 := z_fa17 hj hn h n 0 0 (by omega)
theorem z_fa4 {wt ag tg : Nat → Int32} {n i : Nat} : ∀ (r k : Nat) (c : Int32) (att : Nat → Int32), (x_st_findAttackers_4 n wt ag tg r k c att).2 i = if k ≤ i ∧ i < k + r then x_st_findAttackers_17 wt ag tg i n 0 0 else att i := by
  intro r
  induction r with
  | zero =>
    intro k c att
    rw [if_neg (by omega)]
    rfl
  | succ r ih =>
    intro k c att
    show (x_st_findAttackers_4 n wt ag tg r (k + 1) (c + z_bc (x_st_findAttackers_17 wt ag tg k n 0 0 ^^^ att k)) (upd att k (x_st_findAttackers_17 wt ag tg k n 0 0))).2 i = _
    rw [ih]
    by_cases e : i = k
    · subst e
      rw [if_neg (by omega), if_pos (by omega), upd_eq]
    · rw [upd_ne e]
      by_cases l : k + 1 ≤ i ∧ i < k + 1 + r
      · rw [if_pos l, if_pos (by omega)]
      · rw [if_neg l, if_neg (by omega)]
/-- after findAttackers the class's attackers are the reference's -/
theorem z_fatt {al wt ag tg att : Nat → Int32} {n j : Nat} (hj : j < n) (hn : n ≤ 8) (h : ∀ i, i < n → al (7 + 3 * i + 1) = wt i ∧ al (7 + 3 * i + 2) = ag i ∧ al (31 + i) = tg i ∧ ∃ m, m < 256 ∧ tg i = nI m) : (x_st_findAttackers n wt ag tg att).2 j = x_mo_attackers al n j := by
  rw [z_fa hj hn h]
  show (x_st_findAttackers_4 n wt ag tg n 0 0 att).2 j = _
  rw [z_fa4, if_pos (by omega)]
