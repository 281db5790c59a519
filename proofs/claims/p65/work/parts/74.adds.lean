theorem z_bccn : ∀ m, m < 256 → z_bc (nI m) = nI (z_cn (nI m) 8) := by decide +kernel
theorem z_cntA4 {tg : Nat → Int32} {n : Nat} (h : ∀ j, j < n → ∃ m, m < 256 ∧ tg j = nI m) : ∀ r k, k + r = n → x_st_countAttacks_4 tg r k (nI (z_ct tg k)) = nI (z_ct tg n) := by
  intro r
  induction r with
  | zero =>
    intro k hk
    have e : k = n := by omega
    subst e
    rfl
  | succ r ih =>
    intro k hk
    obtain ⟨m, hm, e⟩ := h k (by omega)
    have e2 : nI (z_ct tg k) + z_bc (tg k) = nI (z_ct tg (k + 1)) := by
      show _ = nI (z_ct tg k + z_cn (tg k) 8)
      rw [e, z_bccn m hm, nI_add]
    show x_st_countAttacks_4 tg r (k + 1) (nI (z_ct tg k) + z_bc (tg k)) = _
    rw [e2]
    exact ih (k + 1) (by omega)
theorem z_cntA {tg : Nat → Int32} {n : Nat} (h : ∀ j, j < n → ∃ m, m < 256 ∧ tg j = nI m) : x_st_countAttacks n tg = nI (z_ct tg n) := z_cntA4 h n 0 (by omega)
theorem z_inle {x a b : Int32} : x_mo_in x a b = true ↔ ¬ x < a ∧ x ≤ b := by
  unfold x_mo_in
  by_cases h : x < a
  · rw [if_pos h]
    exact ⟨fun c => (by cases c), fun c => absurd h c.1⟩
  · rw [if_neg h]
    by_cases h2 : b < x
    · rw [if_pos h2]
      exact ⟨fun c => (by cases c), fun c => (Int32.lt_irrefl (Int32.lt_of_lt_of_le h2 c.2)).elim⟩
    · rw [if_neg h2]
      exact ⟨fun _ => ⟨h, Int32.not_lt.mp h2⟩, fun _ => rfl⟩
theorem z_fa5 {n : Nat} {wt ag tg att : Nat → Int32} {j : Nat} (hj : j < n) : (x_st_findAttackers n wt ag tg att).2 j = x_st_findAttackers_17 wt ag tg j n 0 0 := by
  show (x_st_findAttackers_4 n wt ag tg n 0 0 att).2 j = _
  rw [z_fa4, if_pos (by omega)]
theorem z_wgt {x : Int32} : (x_mo_in x 1 9 = true ∧ x_st_mustBeWeight x = .inl () ∧ ∃ m, 1 ≤ m ∧ m ≤ 9 ∧ x = nI m) ∨ (x_mo_in x 1 9 = false ∧ x_st_mustBeWeight x = .inr "java/lang/IllegalArgumentException") := by
  have z := z_inle (x := x) (a := 1) (b := 9)
  unfold x_st_mustBeWeight
  by_cases q : x_mo_in x 1 9 = true
  · obtain ⟨q1, q2⟩ := z.mp q
    rw [if_neg q1, if_pos q2]
    refine Or.inl ⟨q, rfl, ?_⟩
    obtain ⟨m, hm, rfl⟩ := nI_of (x := x) (fun c => q1 (Int32.lt_of_lt_of_le c (by decide)))
    have h1 : ¬ m < 1 := fun c => q1 ((nI_ltI (b := 1) hm (by omega)).mpr c)
    have h2 : m ≤ 9 := (nI_leI (b := 9) hm (by omega)).mp q2
    exact ⟨m, by omega, h2, rfl⟩
  · refine Or.inr ⟨by simpa using q, ?_⟩
    by_cases q1 : x < 1
    · rw [if_pos q1]
    · rw [if_neg q1, if_neg (fun q2 => q (z.mpr ⟨q1, q2⟩))]
theorem o_add {B : Nat} {al : Nat → Int32} {s : ZS} (W : z_wfB B s) (R : z_R al 0 s) (rs xw xb : Int32) (hB : B < 2 ^ 30) : z_op B al s (x_mo_adds al rs s.1 xw).1 (x_mo_adds al rs s.1 xw).2.1 (x_mo_adds al rs s.1 xw).2.2.1 (x_apply 0 xw xb s).1 (x_apply 0 xw xb s).2 ∧ (x_mo_adds al rs s.1 xw).1 ≠ 3 ∧ (x_mo_adds al rs s.1 xw).2.2.2 = (x_apply 0 xw xb s).2.1 := by
  obtain ⟨n, id, wt, ag, tg, att, ni, dy, mn, mv, en, wo, br⟩ := s
  obtain ⟨w1, w2, ⟨k, k1, k2, k3⟩, w4, w5, w6, w7, w8, w9, w10⟩ := W
  dsimp only at w1 w2 k2 k3 w4 w5 w6 w7 w8 w9 w10
  obtain ⟨r0, r1, r2, r3, r4, r5, r6, r7, r8⟩ := R
  simp only [Nat.zero_add] at r0 r1 r2 r3 r4 r5 r6 r7 r8
  rcases z_wgt (x := xw) with ⟨q1, q2, mw, mw1, mw2, rfl⟩ | ⟨q1, q2⟩
  · by_cases hn : n = 8
    · subst hn
      have e1 : x_mo_adds al rs 8 (nI mw) = (2, al, rs, 8) := by
        unfold x_mo_adds
        rw [q1, if_pos rfl, if_pos rfl]
      have e2 : x_apply 0 (nI mw) xb (8, id, wt, ag, tg, att, ni, dy, mn, mv, en, wo, br) = (.inr "java/lang/IllegalStateException", (8, id, wt, ag, tg, att, ni, dy, mn, mv, en, wo, br)) := by
        simp only [x_apply, x_st_apply0, x_st_add, q2]
        rfl
      rw [e1, e2]
      exact ⟨Or.inr (Or.inr (Or.inl ⟨rfl, rfl, rfl, rfl⟩)), (by decide : (2 : Int32) ≠ 3), rfl⟩
    · have hn8 : n < 8 := by omega
      have e1 : x_mo_adds al rs n (nI mw) = (0, upd (upd (upd (upd (upd (upd al (7 + (3 * n) + 0) (al 1)) (7 + (3 * n) + 1) (nI mw)) (7 + (3 * n) + 2) (0)) (31 + n) (0)) 0 (nI (n + 1))) 1 (al 1 + (1 : Int32)), al 1, n + 1) := by
        unfold x_mo_adds
        rw [q1, if_pos rfl, if_neg hn]
        rw [upd_ne (j := 1) (k := 0) (by omega), upd_ne (j := 1) (k := 31 + n) (by omega), upd_ne (j := 1) (k := 7 + 3 * n + 2) (by omega), upd_ne (j := 1) (k := 7 + 3 * n + 1) (by omega), upd_ne (j := 1) (k := 7 + 3 * n + 0) (by omega)]
      have e2 : x_apply 0 (nI mw) xb (n, id, wt, ag, tg, att, ni, dy, mn, mv, en, wo, br) = (.inl ni, (n + 1, upd id n ni, upd wt n (nI mw), upd ag n 0, upd tg n 0, (x_st_findAttackers (n + 1) (upd wt n (nI mw)) (upd ag n 0) (upd tg n 0) att).2, ni + 1, dy, mn, mv, en, wo, br)) := by
        simp only [x_apply, x_st_apply0, x_st_add, q2, if_pos hn8]
      have r1 : al 1 = ni := r1
      rw [e1, e2, r1]
      refine ⟨Or.inl ⟨rfl, rfl, ?_, ?_, fun i hi => ?_⟩, (by decide : (0 : Int32) ≠ 3), rfl⟩
      · unfold z_R
        simp only [Nat.zero_add]
        refine ⟨?_, upd_eq, ?_, ?_, ?_, ?_, ?_, fun j hj => ⟨?_, ?_, ?_, ?_⟩, fun p hp => ?_⟩
        · rw [upd_ne (by omega), upd_eq]
        · rw [upd_ne (by omega), upd_ne (by omega), upd_ne (by omega), upd_ne (by omega), upd_ne (by omega), upd_ne (by omega)]
          exact r2
        · rw [upd_ne (by omega), upd_ne (by omega), upd_ne (by omega), upd_ne (by omega), upd_ne (by omega), upd_ne (by omega)]
          exact r3
        · rw [upd_ne (by omega), upd_ne (by omega), upd_ne (by omega), upd_ne (by omega), upd_ne (by omega), upd_ne (by omega)]
          exact r4
        · rw [upd_ne (by omega), upd_ne (by omega), upd_ne (by omega), upd_ne (by omega), upd_ne (by omega), upd_ne (by omega)]
          exact r5
        · rw [upd_ne (by omega), upd_ne (by omega), upd_ne (by omega), upd_ne (by omega), upd_ne (by omega), upd_ne (by omega)]
          exact r6
        · rw [upd_ne (by omega), upd_ne (by omega), upd_ne (by omega), upd_ne (by omega), upd_ne (by omega)]
          by_cases e : j = n
          · subst e
            rw [upd_eq, upd_eq]
          · rw [upd_ne (by omega), upd_ne e]
            exact (r7 j (by omega)).1
        · rw [upd_ne (by omega), upd_ne (by omega), upd_ne (by omega), upd_ne (by omega)]
          by_cases e : j = n
          · subst e
            rw [upd_eq, upd_eq]
          · rw [upd_ne (by omega), upd_ne (by omega), upd_ne e]
            exact (r7 j (by omega)).2.1
        · rw [upd_ne (by omega), upd_ne (by omega), upd_ne (by omega)]
          by_cases e : j = n
          · subst e
            rw [upd_eq, upd_eq]
          · rw [upd_ne (by omega), upd_ne (by omega), upd_ne (by omega), upd_ne e]
            exact (r7 j (by omega)).2.2.1
        · rw [upd_ne (by omega), upd_ne (by omega)]
          by_cases e : j = n
          · subst e
            rw [upd_eq, upd_eq]
          · rw [upd_ne (by omega), upd_ne (by omega), upd_ne (by omega), upd_ne (by omega), upd_ne e]
            exact (r7 j (by omega)).2.2.2
        · rw [upd_ne (by omega), upd_ne (by omega), upd_ne (by omega), upd_ne (by omega), upd_ne (by omega), upd_ne (by omega)]
          exact r8 p hp
      · refine ⟨by show n + 1 ≤ 8; omega, w2, ⟨k + 1, by omega, ?_, fun j hj => ?_⟩, fun i j hij hj => ?_, fun j hj => ?_, fun j hj => ?_, fun j hj => ?_, fun j hj => ?_, fun p hp => ?_, ?_⟩
        · show ni + 1 = nI (k + 1)
          rw [k2, nI_1]
        · show ∃ m, m < k + 1 ∧ upd id n ni j = nI m
          have hj : j < n + 1 := hj
          by_cases e : j = n
          · subst e
            rw [upd_eq]
            exact ⟨k, by omega, k2⟩
          · rw [upd_ne e]
            obtain ⟨m, hm, em⟩ := k3 j (by omega)
            exact ⟨m, by omega, em⟩
        · show upd id n ni i ≠ upd id n ni j
          have hj : j < n + 1 := hj
          rw [upd_ne (k := n) (j := i) (by omega)]
          by_cases e : j = n
          · subst e
            rw [upd_eq, k2]
            obtain ⟨m, hm, em⟩ := k3 i (by omega)
            rw [em]
            intro c
            have := (nI_eq (by omega) (by omega)).mp c
            omega
          · rw [upd_ne e]
            exact w4 i j hij (by omega)
        · show ∃ m, 1 ≤ m ∧ m ≤ 9 ∧ upd wt n (nI mw) j = nI m
          have hj : j < n + 1 := hj
          by_cases e : j = n
          · subst e
            rw [upd_eq]
            exact ⟨mw, mw1, mw2, rfl⟩
          · rw [upd_ne e]
            exact w5 j (by omega)
        · show ∃ m, m ≤ 90 ∧ upd ag n 0 j = nI m
          have hj : j < n + 1 := hj
          by_cases e : j = n
          · subst e
            rw [upd_eq]
            exact ⟨0, by omega, rfl⟩
          · rw [upd_ne e]
            exact w6 j (by omega)
        · show ∃ m, m < 2 ^ (n + 1) ∧ upd tg n 0 j = nI m
          have hj : j < n + 1 := hj
          by_cases e : j = n
          · subst e
            rw [upd_eq]
            exact ⟨0, Nat.pow_pos (by omega), rfl⟩
          · rw [upd_ne e]
            obtain ⟨m, hm, em⟩ := w7 j (by omega)
            exact ⟨m, Nat.lt_of_lt_of_le hm (Nat.pow_le_pow_right (by omega) (by omega)), em⟩
        · exact z_fa5 hj
        · show ∃ j, j < n + 1 ∧ mv p = upd id n ni j
          obtain ⟨j, hj, ej⟩ := w9 p hp
          exact ⟨j, by omega, by rw [upd_ne (by omega)]; exact ej⟩
        · show z_ct (upd tg n 0) n + z_cn (upd tg n 0 n) 8 ≤ 20
          rw [upd_eq, z_ctC n (fun i hi => upd_ne (by omega))]
          exact w10
      · dsimp only
        rw [upd_ne (by omega), upd_ne (by omega), upd_ne (by omega), upd_ne (by omega), upd_ne (by omega), upd_ne (by omega)]
  · have e1 : x_mo_adds al rs n xw = (1, al, rs, n) := by
      unfold x_mo_adds
      rw [q1]
      rfl
    have e2 : x_apply 0 xw xb (n, id, wt, ag, tg, att, ni, dy, mn, mv, en, wo, br) = (.inr "java/lang/IllegalArgumentException", (n, id, wt, ag, tg, att, ni, dy, mn, mv, en, wo, br)) := by
      simp only [x_apply, x_st_apply0, x_st_add, q2]
    rw [e1, e2]
    exact ⟨Or.inr (Or.inl ⟨rfl, rfl, rfl, rfl⟩), (by decide : (1 : Int32) ≠ 3), rfl⟩
