section RUN
def z_Iv (al : Nat → Int32) (n mn : Nat) : Prop := n ≤ 8 ∧ mn ≤ 12 ∧ ∀ p, p < mn → ∃ j, j < n ∧ al (39 + p) = al (7 + 3 * j + 0)
theorem z_Iv.to {al al' : Nat → Int32} {n mn n' mn' : Nat} (h : z_Iv al n mn) (hn : n' ≤ 8) (hm : mn' ≤ mn) (hnn : n ≤ n') (e1 : ∀ p, p < mn' → al' (39 + p) = al (39 + p)) (e2 : ∀ j, j < n → al' (7 + 3 * j + 0) = al (7 + 3 * j + 0)) : z_Iv al' n' mn' :=
  ⟨hn, Nat.le_trans hm h.2.1, fun p hp => by
    obtain ⟨j, hj, e⟩ := h.2.2 p (by omega)
    exact ⟨j, by omega, (e1 p hp).trans (e.trans (e2 j hj).symm)⟩⟩
theorem z_Iv.pl {al : Nat → Int32} {n mn : Nat} (h : z_Iv al n mn) (hm : mn ≠ 0) : 0 < x_pl n al (al (39 + mn - 1)) := by
  obtain ⟨j, hj, e⟩ := h.2.2 (mn - 1) (by omega)
  have e3 : 39 + mn - 1 = 39 + (mn - 1) := by omega
  rw [e3]
  rcases Nat.eq_zero_or_pos (x_pl n al (al (39 + (mn - 1)))) with a | a
  · exact absurd e.symm (z_pl0 n 0 a j (Nat.zero_le j) (by omega))
  · exact a
theorem z_thv {n : Nat} {al : Nat → Int32} {xid : Int32} (h : x_th n al xid = true) : ∃ v, v < n ∧ x_pl n al xid = v + 1 ∧ al (7 + 3 * v + 0) = xid := by
  unfold x_th at h
  have h := of_decide_eq_true h
  rcases z_pl2 (al := al) (xid := xid) n 0 with a | ⟨j, -, b, c, d⟩
  · have a : x_pl n al xid = 0 := a
    omega
  · exact ⟨j, by omega, c, d⟩
theorem i_adds {al : Nat → Int32} {n mn : Nat} (h : z_Iv al n mn) (rs xw : Int32) : z_Iv (x_mo_adds al rs n xw).2.1 (x_mo_adds al rs n xw).2.2.2 mn := by
  have hn := h.1
  have hm := h.2.1
  unfold x_mo_adds
  by_cases a : x_mo_in xw 1 9 = true
  · rw [if_pos a]
    by_cases b : n = 8
    · rw [if_pos b]
      exact h
    · rw [if_neg b]
      exact h.to (by show n + 1 ≤ 8; omega) (Nat.le_refl mn) (Nat.le_succ n) (fun p hp => (upd_ne (by omega)).trans ((upd_ne (by omega)).trans ((upd_ne (by omega)).trans ((upd_ne (by omega)).trans ((upd_ne (by omega)).trans (upd_ne (by omega))))))) (fun j hj => (upd_ne (by omega)).trans ((upd_ne (by omega)).trans ((upd_ne (by omega)).trans ((upd_ne (by omega)).trans ((upd_ne (by omega)).trans (upd_ne (by omega)))))))
  · rw [if_neg a]
    exact h
theorem i_claims {al : Nat → Int32} {n mn : Nat} (h : z_Iv al n mn) (rs xid : Int32) : z_Iv (x_mo_claims al rs n mn xid).2.1 n (x_mo_claims al rs n mn xid).2.2.2 := by
  unfold x_mo_claims
  by_cases a : x_th n al xid = true
  · rw [if_pos a]
    by_cases b : mn ≤ 0
    · rw [if_pos b]
      obtain ⟨v, v1, v2, v3⟩ := z_thv a
      have hn := h.1
      refine ⟨h.1, (by decide : (1 : Nat) ≤ 12), fun p hp => ⟨v, v1, ?_⟩⟩
      have hp : p < 1 := hp
      obtain rfl : p = 0 := by omega
      show upd (upd al 39 xid) 3 1 39 = upd (upd al 39 xid) 3 1 (7 + 3 * v + 0)
      rw [upd_ne (by omega), upd_eq, upd_ne (by omega), upd_ne (by omega), v3]
    · rw [if_neg b]
      exact h
  · rw [if_neg a]
    exact h
theorem i_replies {al : Nat → Int32} {n mn : Nat} (h : z_Iv al n mn) (rs xid : Int32) : z_Iv (x_mo_replies al rs n mn xid).2.1 n (x_mo_replies al rs n mn xid).2.2.2 := by
  unfold x_mo_replies
  by_cases a0 : mn = 0
  · rw [if_pos a0]
    exact h
  · rw [if_neg a0]
    by_cases a : x_th n al xid = true
    · rw [if_pos a]
      by_cases b : x_mo_isAllowed al n mn xid = true
      · rw [if_pos b]
        by_cases c : mn = 12
        · rw [if_pos c]
          exact h
        · rw [if_neg c]
          obtain ⟨v, v1, v2, v3⟩ := z_thv a
          have hn := h.1
          have hm := h.2.1
          refine ⟨h.1, by show mn + 1 ≤ 12; omega, fun p hp => ?_⟩
          have hp : p < mn + 1 := hp
          by_cases e : p = mn
          · refine ⟨v, v1, ?_⟩
            rw [e]
            show upd (upd al (39 + mn) xid) 3 (nI (mn + 1)) (39 + mn) = upd (upd al (39 + mn) xid) 3 (nI (mn + 1)) (7 + 3 * v + 0)
            rw [upd_ne (by omega), upd_eq, upd_ne (by omega), upd_ne (by omega), v3]
          · obtain ⟨j, hj, ej⟩ := h.2.2 p (by omega)
            refine ⟨j, hj, ?_⟩
            show upd (upd al (39 + mn) xid) 3 (nI (mn + 1)) (39 + p) = upd (upd al (39 + mn) xid) 3 (nI (mn + 1)) (7 + 3 * j + 0)
            rw [upd_ne (by omega), upd_ne (by omega), upd_ne (by omega), upd_ne (by omega), ej]
      · rw [if_neg b]
        exact h
    · rw [if_neg a]
      exact h
theorem i_takes {al : Nat → Int32} {n mn : Nat} (h : z_Iv al n mn) (rs : Int32) : z_Iv (x_mo_takes al rs mn).2.1 n (x_mo_takes al rs mn).2.2.2 := by
  unfold x_mo_takes
  by_cases a : mn = 0
  · rw [if_pos a]
    exact h
  · rw [if_neg a]
    by_cases b : mn = 1
    · rw [if_pos b]
      exact h
    · rw [if_neg b]
      have hn := h.1
      have hm := h.2.1
      show z_Iv (x_mo_clearsMoves (upd al 3 (nI (mn - 1))) (mn - 1)) n (mn - 1)
      exact h.to h.1 (Nat.sub_le mn 1) (Nat.le_refl n) (fun p hp => (z_clr (by omega) (by omega)).trans (upd_ne (by omega))) (fun j hj => (z_clr (by omega) (by omega)).trans (upd_ne (by omega)))
theorem i_closes {al : Nat → Int32} {n mn : Nat} (h : z_Iv al n mn) (rs : Int32) : z_Iv (x_mo_closes al rs mn).2.1 n (x_mo_closes al rs mn).2.2.2 := by
  unfold x_mo_closes
  by_cases a : mn = 0
  · rw [if_pos a]
    exact h
  · rw [if_neg a]
    by_cases b : mn % 2 = 1
    · rw [if_pos b]
      exact ⟨h.1, Nat.zero_le 12, fun p hp => absurd hp (Nat.not_lt_zero p)⟩
    · rw [if_neg b]
      exact ⟨h.1, Nat.zero_le 12, fun p hp => absurd hp (Nat.not_lt_zero p)⟩
theorem i_removes {al : Nat → Int32} {n mn : Nat} (h : z_Iv al n mn) (rs xid : Int32) : z_Iv (x_mo_removes al rs n mn xid).2.1 (x_mo_removes al rs n mn xid).2.2.2.1 (x_mo_removes al rs n mn xid).2.2.2.2 := by
  have hn := h.1
  by_cases a : x_pl n al xid = 0
  · have e : x_mo_removes al rs n mn xid = (3, al, rs, n, mn) := by
      unfold x_mo_removes
      rw [if_pos a]
    rw [e]
    exact h
  · obtain ⟨v, v1, v2, v3⟩ := z_thv (n := n) (al := al) (xid := xid) (decide_eq_true (by omega))
    obtain ⟨f1, -, -, -, f5⟩ := z_a14f (xid := xid) hn v1 v2
    have u1 : x_mo_removes al rs n mn xid = (if x_mo_wasMoved (z_a14 al n xid) mn xid then (0, (x_mo_breaksOff (z_a14 al n xid)).1, x_mo_attacks al n - x_mo_attacks (z_a14 al n xid) (n - 1), n - 1, (x_mo_breaksOff (z_a14 al n xid)).2) else (0, z_a14 al n xid, x_mo_attacks al n - x_mo_attacks (z_a14 al n xid) (n - 1), n - 1, mn)) := by
      unfold x_mo_removes
      rw [if_neg a]
      rfl
    rw [u1]
    by_cases w : x_mo_wasMoved (z_a14 al n xid) mn xid = true
    · rw [if_pos w]
      exact ⟨by show n - 1 ≤ 8; omega, Nat.zero_le 12, fun p hp => absurd hp (Nat.not_lt_zero p)⟩
    · rw [if_neg w]
      refine ⟨by show n - 1 ≤ 8; omega, h.2.1, fun p hp => ?_⟩
      have hp : p < mn := hp
      obtain ⟨j, hj, e⟩ := h.2.2 p hp
      have hne : al (39 + p) ≠ xid := fun c => w ((z_was4 mn 0 false).mpr (Or.inr ⟨p, Nat.zero_le p, by omega, (f5 _ (by omega)).trans c⟩))
      have hjv : j ≠ v := fun c => hne (by rw [e, c, v3])
      show ∃ i, i < n - 1 ∧ z_a14 al n xid (39 + p) = z_a14 al n xid (7 + 3 * i + 0)
      by_cases l : j < v
      · refine ⟨j, by omega, ?_⟩
        rw [f5 _ (by omega), f1 j 0 (by omega) (by omega), e]
        unfold z_shf
        rw [if_neg (by omega)]
      · refine ⟨j - 1, by omega, ?_⟩
        rw [f5 _ (by omega), f1 (j - 1) 0 (by omega) (by omega), e]
        unfold z_shf
        rw [if_pos (by omega)]
        congr 1
        omega
theorem i_renews {al : Nat → Int32} {n mn : Nat} (h : z_Iv al n mn) (rs xid : Int32) : z_Iv (x_mo_renews al rs n xid).2.1 n mn := by
  unfold x_mo_renews
  by_cases a : x_th n al xid = true
  · rw [if_pos a]
    obtain ⟨v, v1, v2, v3⟩ := z_thv a
    have hn := h.1
    have hm := h.2.1
    show z_Iv (upd al _ _) n mn
    exact h.to hn (Nat.le_refl mn) (Nat.le_refl n) (fun p hp => upd_ne (by omega)) (fun j hj => upd_ne (by omega))
  · rw [if_neg a]
    exact h
theorem i_weighs {al : Nat → Int32} {n mn : Nat} (h : z_Iv al n mn) (rs xid xw : Int32) : z_Iv (x_mo_weighs al rs n xid xw).2.1 n mn := by
  unfold x_mo_weighs
  by_cases a : x_th n al xid = true
  · rw [if_pos a]
    by_cases b : x_mo_in xw 1 9 = true
    · rw [if_pos b]
      obtain ⟨v, v1, v2, v3⟩ := z_thv a
      have hn := h.1
      have hm := h.2.1
      show z_Iv (upd al _ _) n mn
      exact h.to hn (Nat.le_refl mn) (Nat.le_refl n) (fun p hp => upd_ne (by omega)) (fun j hj => upd_ne (by omega))
    · rw [if_neg b]
      exact h
  · rw [if_neg a]
    exact h
theorem i_yields {al : Nat → Int32} {n mn : Nat} (h : z_Iv al n mn) (rs xf xt : Int32) : z_Iv (x_mo_yields al rs n xf xt).2.1 n mn := by
  unfold x_mo_yields
  by_cases a : x_th n al xf = true
  · rw [if_pos a]
    by_cases a2 : x_th n al xt = true
    · rw [if_pos a2]
      by_cases b : x_mo_isAttack al (x_pl n al xf - 1) (x_pl n al xt - 1) = true
      · rw [if_pos b]
        obtain ⟨v, v1, v2, v3⟩ := z_thv a
        have hn := h.1
        have hm := h.2.1
        show z_Iv (upd al _ _) n mn
        exact h.to hn (Nat.le_refl mn) (Nat.le_refl n) (fun p hp => upd_ne (by omega)) (fun j hj => upd_ne (by omega))
      · rw [if_neg b]
        exact h
    · rw [if_neg a2]
      exact h
  · rw [if_neg a]
    exact h
theorem i_leads {al : Nat → Int32} {n mn : Nat} (h : z_Iv al n mn) (rs xf xt : Int32) : z_Iv (x_mo_leads al rs n xf xt).2.1 n mn := by
  unfold x_mo_leads
  by_cases a : x_th n al xf = true
  · rw [if_pos a]
    by_cases a2 : x_th n al xt = true
    · rw [if_pos a2]
      by_cases b : xf = xt
      · rw [if_pos b]
        exact h
      · rw [if_neg b]
        by_cases c : x_mo_isAttack al (x_pl n al xf - 1) (x_pl n al xt - 1) = true
        · rw [if_pos c]
          exact h
        · rw [if_neg c]
          by_cases d : x_mo_attacks al n = 20
          · rw [if_pos d]
            exact h
          · rw [if_neg d]
            obtain ⟨v, v1, v2, v3⟩ := z_thv a
            have hn := h.1
            have hm := h.2.1
            show z_Iv (upd al _ _) n mn
            exact h.to hn (Nat.le_refl mn) (Nat.le_refl n) (fun p hp => upd_ne (by omega)) (fun j hj => upd_ne (by omega))
    · rw [if_neg a2]
      exact h
  · rw [if_neg a]
    exact h
theorem i_ages {xd : Int32} : ∀ r k al i, (∀ q, q < k + r → i ≠ 7 + 3 * q + 2) → x_mo_ages_2 xd r k al i = al i := by
  intro r
  induction r with
  | zero => exact fun k al i _ => rfl
  | succ r ih =>
    intro k al i h
    simp only [x_mo_ages_2]
    split
    · exact (ih _ _ _ (fun q hq => h q (by omega))).trans (upd_ne (h k (by omega)))
    · exact (ih _ _ _ (fun q hq => h q (by omega))).trans (upd_ne (h k (by omega)))
theorem i_passes {al : Nat → Int32} {n mn : Nat} (h : z_Iv al n mn) (rs xid : Int32) (bf : Nat → Int32) : z_Iv (x_mo_passes al rs bf n xid).2.1 n mn := by
  unfold x_mo_passes
  by_cases a : x_mo_in xid 1 90 = true
  · rw [if_pos a]
    have hn := h.1
    have hm := h.2.1
    show z_Iv (upd (x_mo_ages_2 xid n 0 al) 2 _) n mn
    exact h.to hn (Nat.le_refl mn) (Nat.le_refl n) (fun p hp => (upd_ne (by omega)).trans (i_ages n 0 al _ (fun q hq => by omega))) (fun j hj => (upd_ne (by omega)).trans (i_ages n 0 al _ (fun q hq => by omega)))
  · rw [if_neg a]
    exact h
section DOES
variable {al : Nat → Int32} {rs : Int32} {bf cm : Nat → Int32} {n mn p : Nat}
theorem d_97 (c : cm p = 97) : x_mo_does al rs bf cm n mn p = ((x_mo_adds al rs n (cm (p + 1))).1, (x_mo_adds al rs n (cm (p + 1))).2.1, (x_mo_adds al rs n (cm (p + 1))).2.2.1, bf, (x_mo_adds al rs n (cm (p + 1))).2.2.2, mn) := by
  unfold x_mo_does
  rw [if_pos c] <;> rfl
theorem d_98 (c : cm p = 98) : x_mo_does al rs bf cm n mn p = ((x_mo_takes al rs mn).1, (x_mo_takes al rs mn).2.1, (x_mo_takes al rs mn).2.2.1, bf, n, (x_mo_takes al rs mn).2.2.2) := by
  unfold x_mo_does
  rw [if_neg (by rw [c]; decide), if_pos c] <;> rfl
theorem d_99 (c : cm p = 99) : x_mo_does al rs bf cm n mn p = ((x_mo_claims al rs n mn (cm (p + 1))).1, (x_mo_claims al rs n mn (cm (p + 1))).2.1, (x_mo_claims al rs n mn (cm (p + 1))).2.2.1, bf, n, (x_mo_claims al rs n mn (cm (p + 1))).2.2.2) := by
  unfold x_mo_does
  rw [if_neg (by rw [c]; decide), if_neg (by rw [c]; decide), if_pos c] <;> rfl
theorem d_101 (c : cm p = 101) : x_mo_does al rs bf cm n mn p = ((x_mo_closes al rs mn).1, (x_mo_closes al rs mn).2.1, (x_mo_closes al rs mn).2.2.1, bf, n, (x_mo_closes al rs mn).2.2.2) := by
  unfold x_mo_does
  rw [if_neg (by rw [c]; decide), if_neg (by rw [c]; decide), if_neg (by rw [c]; decide), if_pos c] <;> rfl
theorem d_109 (c : cm p = 109) : x_mo_does al rs bf cm n mn p = ((x_mo_removes al rs n mn (cm (p + 1))).1, (x_mo_removes al rs n mn (cm (p + 1))).2.1, (x_mo_removes al rs n mn (cm (p + 1))).2.2.1, bf, (x_mo_removes al rs n mn (cm (p + 1))).2.2.2.1, (x_mo_removes al rs n mn (cm (p + 1))).2.2.2.2) := by
  unfold x_mo_does
  rw [if_neg (by rw [c]; decide), if_neg (by rw [c]; decide), if_neg (by rw [c]; decide), if_neg (by rw [c]; decide), if_pos c] <;> rfl
theorem d_110 (c : cm p = 110) : x_mo_does al rs bf cm n mn p = ((x_mo_renews al rs n (cm (p + 1))).1, (x_mo_renews al rs n (cm (p + 1))).2.1, (x_mo_renews al rs n (cm (p + 1))).2.2, bf, n, mn) := by
  unfold x_mo_does
  rw [if_neg (by rw [c]; decide), if_neg (by rw [c]; decide), if_neg (by rw [c]; decide), if_neg (by rw [c]; decide), if_neg (by rw [c]; decide), if_pos c] <;> rfl
theorem d_112 (c : cm p = 112) : x_mo_does al rs bf cm n mn p = ((x_mo_replies al rs n mn (cm (p + 1))).1, (x_mo_replies al rs n mn (cm (p + 1))).2.1, (x_mo_replies al rs n mn (cm (p + 1))).2.2.1, bf, n, (x_mo_replies al rs n mn (cm (p + 1))).2.2.2) := by
  unfold x_mo_does
  rw [if_neg (by rw [c]; decide), if_neg (by rw [c]; decide), if_neg (by rw [c]; decide), if_neg (by rw [c]; decide), if_neg (by rw [c]; decide), if_neg (by rw [c]; decide), if_pos c] <;> rfl
theorem d_116 (c : cm p = 116) : x_mo_does al rs bf cm n mn p = ((x_mo_leads al rs n (cm (p + 1)) (cm (p + 2))).1, (x_mo_leads al rs n (cm (p + 1)) (cm (p + 2))).2.1, (x_mo_leads al rs n (cm (p + 1)) (cm (p + 2))).2.2, bf, n, mn) := by
  unfold x_mo_does
  rw [if_neg (by rw [c]; decide), if_neg (by rw [c]; decide), if_neg (by rw [c]; decide), if_neg (by rw [c]; decide), if_neg (by rw [c]; decide), if_neg (by rw [c]; decide), if_neg (by rw [c]; decide), if_pos c] <;> rfl
theorem d_119 (c : cm p = 119) : x_mo_does al rs bf cm n mn p = ((x_mo_weighs al rs n (cm (p + 1)) (cm (p + 2))).1, (x_mo_weighs al rs n (cm (p + 1)) (cm (p + 2))).2.1, (x_mo_weighs al rs n (cm (p + 1)) (cm (p + 2))).2.2, bf, n, mn) := by
  unfold x_mo_does
  rw [if_neg (by rw [c]; decide), if_neg (by rw [c]; decide), if_neg (by rw [c]; decide), if_neg (by rw [c]; decide), if_neg (by rw [c]; decide), if_neg (by rw [c]; decide), if_neg (by rw [c]; decide), if_neg (by rw [c]; decide), if_pos c] <;> rfl
theorem d_121 (c : cm p = 121) : x_mo_does al rs bf cm n mn p = ((x_mo_yields al rs n (cm (p + 1)) (cm (p + 2))).1, (x_mo_yields al rs n (cm (p + 1)) (cm (p + 2))).2.1, (x_mo_yields al rs n (cm (p + 1)) (cm (p + 2))).2.2, bf, n, mn) := by
  unfold x_mo_does
  rw [if_neg (by rw [c]; decide), if_neg (by rw [c]; decide), if_neg (by rw [c]; decide), if_neg (by rw [c]; decide), if_neg (by rw [c]; decide), if_neg (by rw [c]; decide), if_neg (by rw [c]; decide), if_neg (by rw [c]; decide), if_neg (by rw [c]; decide), if_pos c] <;> rfl
theorem d_100 (c : cm p ≠ 97 ∧ cm p ≠ 98 ∧ cm p ≠ 99 ∧ cm p ≠ 101 ∧ cm p ≠ 109 ∧ cm p ≠ 110 ∧ cm p ≠ 112 ∧ cm p ≠ 116 ∧ cm p ≠ 119 ∧ cm p ≠ 121) : x_mo_does al rs bf cm n mn p = ((x_mo_passes al rs bf n (cm (p + 1))).1, (x_mo_passes al rs bf n (cm (p + 1))).2.1, (x_mo_passes al rs bf n (cm (p + 1))).2.2.1, (x_mo_passes al rs bf n (cm (p + 1))).2.2.2, n, mn) := by
  obtain ⟨c97, c98, c99, c101, c109, c110, c112, c116, c119, c121⟩ := c
  unfold x_mo_does
  rw [if_neg c97, if_neg c98, if_neg c99, if_neg c101, if_neg c109, if_neg c110, if_neg c112, if_neg c116, if_neg c119, if_neg c121] <;> rfl
theorem i_does (h : z_Iv al n mn) : z_Iv (x_mo_does al rs bf cm n mn p).2.1 (x_mo_does al rs bf cm n mn p).2.2.2.2.1 (x_mo_does al rs bf cm n mn p).2.2.2.2.2 := by
  by_cases c97 : cm p = 97
  · rw [d_97 c97]
    exact i_adds h rs _
  by_cases c98 : cm p = 98
  · rw [d_98 c98]
    exact i_takes h rs
  by_cases c99 : cm p = 99
  · rw [d_99 c99]
    exact i_claims h rs _
  by_cases c101 : cm p = 101
  · rw [d_101 c101]
    exact i_closes h rs
  by_cases c109 : cm p = 109
  · rw [d_109 c109]
    exact i_removes h rs _
  by_cases c110 : cm p = 110
  · rw [d_110 c110]
    exact i_renews h rs _
  by_cases c112 : cm p = 112
  · rw [d_112 c112]
    exact i_replies h rs _
  by_cases c116 : cm p = 116
  · rw [d_116 c116]
    exact i_leads h rs _ _
  by_cases c119 : cm p = 119
  · rw [d_119 c119]
    exact i_weighs h rs _ _
  by_cases c121 : cm p = 121
  · rw [d_121 c121]
    exact i_yields h rs _ _
  rw [d_100 ⟨c97, c98, c99, c101, c109, c110, c112, c116, c119, c121⟩]
  exact i_passes h rs _ bf
end DOES
theorem z_t6 {c : Int32} {al : Nat → Int32} {rs : Int32} {bf : Nat → Int32} {n n' mn mn' : Nat} (h1 : n = n') (h2 : mn = mn') : (c, al, rs, bf, n, mn) = (c, al, rs, bf, n', mn') := by
  rw [h1, h2]
theorem o_does {B : Nat} {al : Nat → Int32} {s : ZS} (W : z_wfB B s) (R : z_R al 0 s) (hB : B < 2 ^ 30) (rs : Int32) (bf : Nat → Int32) {vb oa ob cm : Nat → Int32} {i : Nat} (hr : z_rel i vb oa ob cm) : ∃ c al' rs' bf', x_mo_does al rs bf cm s.1 s.2.2.2.2.2.2.2.2.1 (3 * i) = (c, al', rs', bf', (x_apply ((vb i).toNatClampNeg) (oa i) (ob i) s).2.1, (x_apply ((vb i).toNatClampNeg) (oa i) (ob i) s).2.2.2.2.2.2.2.2.2.1) ∧ z_op B al s c al' rs' (x_apply ((vb i).toNatClampNeg) (oa i) (ob i) s).1 (x_apply ((vb i).toNatClampNeg) (oa i) (ob i) s).2 := by
  obtain ⟨k, hk, hv, hl, ha, hb⟩ := hr
  have hc : k = 0 ∨ k = 1 ∨ k = 2 ∨ k = 3 ∨ k = 4 ∨ k = 5 ∨ k = 6 ∨ k = 7 ∨ k = 8 ∨ k = 9 ∨ k = 10 := by omega
  rcases hc with rfl | rfl | rfl | rfl | rfl | rfl | rfl | rfl | rfl | rfl | rfl
  · have ev : (vb i).toNatClampNeg = 0 := by
      rw [hv]
      decide
    rw [ev, ha (by decide)]
    obtain ⟨o1, -, o2⟩ := o_add W R rs (cm (3 * i + 1)) (ob i) hB
    exact ⟨_, _, _, bf, (d_97 hl).trans (z_t6 o2 rfl), o1⟩
  · have ev : (vb i).toNatClampNeg = 1 := by
      rw [hv]
      decide
    rw [ev, ha (by decide)]
    obtain ⟨o1, -, -, o2, o3⟩ := o_remove W R rs (cm (3 * i + 1)) (ob i)
    exact ⟨_, _, _, bf, (d_109 hl).trans (z_t6 o2 o3), o1⟩
  · have ev : (vb i).toNatClampNeg = 2 := by
      rw [hv]
      decide
    rw [ev, ha (by decide), hb (by decide)]
    have o1 := o_leads W R rs (cm (3 * i + 1)) (cm (3 * i + 2))
    exact ⟨_, _, _, bf, (d_116 hl).trans (z_t6 rfl rfl), o1⟩
  · have ev : (vb i).toNatClampNeg = 3 := by
      rw [hv]
      decide
    rw [ev, ha (by decide), hb (by decide)]
    obtain ⟨o1, -⟩ := o_yields W R rs (cm (3 * i + 1)) (cm (3 * i + 2))
    exact ⟨_, _, _, bf, (d_121 hl).trans (z_t6 rfl rfl), o1⟩
  · have ev : (vb i).toNatClampNeg = 4 := by
      rw [hv]
      decide
    rw [ev, ha (by decide), hb (by decide)]
    obtain ⟨o1, -⟩ := o_weigh W R rs (cm (3 * i + 1)) (cm (3 * i + 2))
    exact ⟨_, _, _, bf, (d_119 hl).trans (z_t6 rfl rfl), o1⟩
  · have ev : (vb i).toNatClampNeg = 5 := by
      rw [hv]
      decide
    rw [ev, ha (by decide)]
    obtain ⟨o1, -⟩ := o_renew W R rs (cm (3 * i + 1)) (ob i)
    exact ⟨_, _, _, bf, (d_110 hl).trans (z_t6 rfl rfl), o1⟩
  · have ev : (vb i).toNatClampNeg = 6 := by
      rw [hv]
      decide
    rw [ev, ha (by decide)]
    obtain ⟨o1, -, o3⟩ := o_claim W R rs (cm (3 * i + 1)) (ob i)
    exact ⟨_, _, _, bf, (d_99 hl).trans (z_t6 rfl o3), o1⟩
  · have ev : (vb i).toNatClampNeg = 7 := by
      rw [hv]
      decide
    rw [ev, ha (by decide)]
    obtain ⟨o1, o3⟩ := o_reply W R rs (cm (3 * i + 1)) (ob i)
    exact ⟨_, _, _, bf, (d_112 hl).trans (z_t6 rfl o3), o1⟩
  · have ev : (vb i).toNatClampNeg = 8 := by
      rw [hv]
      decide
    rw [ev]
    obtain ⟨o1, -, o3⟩ := o_takes W R rs (oa i) (ob i)
    exact ⟨_, _, _, bf, (d_98 hl).trans (z_t6 rfl o3), o1⟩
  · have ev : (vb i).toNatClampNeg = 9 := by
      rw [hv]
      decide
    rw [ev]
    obtain ⟨o1, -, -, o3⟩ := o_closes W R rs (oa i) (ob i)
    exact ⟨_, _, _, bf, (d_101 hl).trans (z_t6 rfl o3), o1⟩
  · have ev : (vb i).toNatClampNeg = 10 := by
      rw [hv]
      decide
    rw [ev, ha (by decide)]
    obtain ⟨o1, -⟩ := o_passes W R rs (cm (3 * i + 1)) (ob i) bf
    exact ⟨_, _, _, (x_mo_passes al rs bf s.1 (cm (3 * i + 1))).2.2.2, (d_100 ⟨(by rw [hl]; decide), (by rw [hl]; decide), (by rw [hl]; decide), (by rw [hl]; decide), (by rw [hl]; decide), (by rw [hl]; decide), (by rw [hl]; decide), (by rw [hl]; decide), (by rw [hl]; decide), (by rw [hl]; decide)⟩).trans (z_t6 rfl rfl), o1⟩
/-- the commands one after another -/
theorem z_exec {vb oa ob cm : Nat → Int32} {cn B : Nat} (hB : B + cn < 2 ^ 30) (hrel : ∀ i, i < cn → z_rel i vb oa ob cm) : ∀ r i al rs bf s, i + r = cn → z_wfB (B + i) s → z_R al 0 s → ∃ s' al' rs' bf', (∀ i, 51 ≤ i → al' i = al i) ∧
    ((x_exec (fun i => (vb i).toNatClampNeg) oa ob r i s = (-1, s') ∧ x_ru_37 cm cn (r + 1) i al rs bf s.1 s.2.2.2.2.2.2.2.2.1 = (cn, al', rs', bf', s'.1, s'.2.2.2.2.2.2.2.2.1) ∧ z_wfB (B + cn) s' ∧ z_R al' 0 s') ∨
     (∃ j n' mn', j < cn ∧ x_exec (fun i => (vb i).toNatClampNeg) oa ob r i s = (nI j, s') ∧ x_ru_37 cm cn (r + 1) i al rs bf s.1 s.2.2.2.2.2.2.2.2.1 = (j, al', rs', bf', n', mn'))) := by
  intro r
  induction r with
  | zero =>
    intro i al rs bf s hi W R
    obtain rfl : i = cn := by omega
    refine ⟨s, al, rs, bf, fun _ _ => rfl, Or.inl ⟨rfl, ?_, W, R⟩⟩
    simp only [x_ru_37]
    rw [if_pos (Nat.le_refl i)]
  | succ r ih =>
    intro i al rs bf s hi W R
    obtain ⟨c, al1, rs1, bf1, e1, e2⟩ := o_does W R (by omega) rs bf (hrel i (by omega))
    have uE : x_exec (fun i => (vb i).toNatClampNeg) oa ob (r + 1) i s = (match x_apply ((vb i).toNatClampNeg) (oa i) (ob i) s with
      | (.inl _, s') => x_exec (fun i => (vb i).toNatClampNeg) oa ob r (i + 1) s'
      | (.inr _, s') => (nI i, s')) := rfl
    have uR : x_ru_37 cm cn (r + 1 + 1) i al rs bf s.1 s.2.2.2.2.2.2.2.2.1 = (match x_mo_does al rs bf cm s.1 s.2.2.2.2.2.2.2.2.1 (3 * i) with
      | (v1, y1_al, y1_rs, y1_bf, y1_n, y1_mn) => (if (v1) = (0) then x_ru_37 cm cn (r + 1) (i + 1) y1_al y1_rs y1_bf y1_n y1_mn else (i, y1_al, y1_rs, y1_bf, y1_n, y1_mn))) := by
      rw [x_ru_37, if_neg (by omega)]
    rw [uE, uR, e1]
    generalize x_apply ((vb i).toNatClampNeg) (oa i) (ob i) s = y at e2 ⊢
    obtain ⟨o, s2⟩ := y
    dsimp only at e2 ⊢
    rcases e2 with ⟨hc, ho, R2, W2, h51⟩ | e2
    · subst hc ho
      rw [if_pos rfl]
      obtain ⟨s', al', rs', bf', g1, g2⟩ := ih (i + 1) al1 rs1 bf1 s2 (by omega) W2 R2
      exact ⟨s', al', rs', bf', fun q hq => (g1 q hq).trans (h51 q hq), g2⟩
    · have e3 : c ≠ 0 ∧ (∃ E, o = .inr E) ∧ s2 = s ∧ al1 = al := by
        rcases e2 with ⟨hc, ho, a, b⟩ | ⟨hc, ho, a, b⟩ | ⟨hc, ho, a, b⟩
        · exact ⟨by rw [hc]; decide, ⟨_, ho⟩, a, b⟩
        · exact ⟨by rw [hc]; decide, ⟨_, ho⟩, a, b⟩
        · exact ⟨by rw [hc]; decide, ⟨_, ho⟩, a, b⟩
      obtain ⟨hc, ⟨E, ho⟩, hs, hal⟩ := e3
      subst ho hs hal
      rw [if_neg hc]
      exact ⟨_, _, rs1, bf1, fun _ _ => rfl, Or.inr ⟨i, _, _, by omega, rfl, rfl⟩⟩
theorem z_J.rst {t : Nat} {hs : Bool} {se : Int32} {sf : Int32} {s : ZS} {s1 : ZS} {nx : Nat} {kp : Nat} {rw : Nat → ZS} {ic : Nat} {fi : Nat → Int32} {lc : Nat} {fl : Nat → Int32} {al : Nat → Int32} {cg : Nat} {sv : Bool} {ad : Nat → Int32} {ln : Nat → Int32} {lz : Nat} {ip : Nat → Int32} {ty : Nat} {ea : Int32} {fa : Int32} (J : z_J t hs se sf s s1 nx kp rw ic fi lc fl al cg sv ad ln lz ip ty ea fa) {se' sf' ea' fa' : Int32} (e1 : se' = ea') (e2 : sf' = fa') : z_J t hs se' sf' s s1 nx kp rw 0 fi lc fl al cg sv ad ln lz ip 0 ea' fa' := by
  obtain ⟨a1, a2, a3, a4, a5, a6, a7, a8, -, -, a11, a12, a13, a14, -, -, -⟩ := J
  exact ⟨a1, a2, a3, a4, a5, a6, a7, a8, e1, e2, a11, a12, a13, a14, rfl, Nat.zero_le 60, fun j hj => absurd hj (Nat.not_lt_zero j)⟩
theorem z_J.smS {t : Nat} {hs : Bool} {se : Int32} {sf : Int32} {s : ZS} {s1 : ZS} {nx : Nat} {kp : Nat} {rw : Nat → ZS} {ic : Nat} {fi : Nat → Int32} {lc : Nat} {fl : Nat → Int32} {al : Nat → Int32} {cg : Nat} {sv : Bool} {ad : Nat → Int32} {ln : Nat → Int32} {lz : Nat} {ip : Nat → Int32} {ty : Nat} {ea : Int32} {fa : Int32} (J : z_J t hs se sf s s1 nx kp rw ic fi lc fl al cg sv ad ln lz ip ty ea fa) {s2 : ZS} (e : z_sm s s2) : z_J t hs se sf s2 s1 nx kp rw ic fi lc fl al cg sv ad ln lz ip ty ea fa := by
  obtain ⟨a1, a2, a3⟩ := J
  exact ⟨z_wfB.sm a1 e, z_R.sm a2 e, a3⟩
theorem z_J.Iv {t : Nat} {hs : Bool} {se : Int32} {sf : Int32} {s : ZS} {s1 : ZS} {nx : Nat} {kp : Nat} {rw : Nat → ZS} {ic : Nat} {fi : Nat → Int32} {lc : Nat} {fl : Nat → Int32} {al : Nat → Int32} {cg : Nat} {sv : Bool} {ad : Nat → Int32} {ln : Nat → Int32} {lz : Nat} {ip : Nat → Int32} {ty : Nat} {ea : Int32} {fa : Int32} (J : z_J t hs se sf s s1 nx kp rw ic fi lc fl al cg sv ad ln lz ip ty ea fa) : z_Iv al s.1 s.2.2.2.2.2.2.2.2.1 := by
  obtain ⟨W, R, -⟩ := J
  refine ⟨W.1, W.2.1, fun p hp => ?_⟩
  obtain ⟨-, -, -, -, -, -, -, -, w, -⟩ := W
  obtain ⟨j, hj, e⟩ := w p hp
  refine ⟨j, hj, ?_⟩
  have h1 : al (39 + p) = s.2.2.2.2.2.2.2.2.2.1 p := by
    have := R.2.2.2.2.2.2.2.2 p hp
    rw [Nat.zero_add] at this
    exact this
  rw [h1, R.id hj, e]
theorem z_sm2 {B : Nat} {s : ZS} (W : z_wfB B s) (d d' : ZS) : z_sm s (z_cps (z_cps s d) d') := by
  have h1 := W.1
  have h2 := W.2.1
  exact ⟨rfl, fun j hj => ⟨(z_cpy (by omega)).trans (z_cpy (by omega)), (z_cpy (by omega)).trans (z_cpy (by omega)), (z_cpy (by omega)).trans (z_cpy (by omega)), (z_cpy (by omega)).trans (z_cpy (by omega)), (z_cpy (by omega)).trans (z_cpy (by omega))⟩, rfl, rfl, rfl, fun p hp => (z_cpy (by omega)).trans (z_cpy (by omega)), rfl⟩
theorem z_cpx {al al' : Nat → Int32} (h : ∀ i, 51 ≤ i → al' i = al i) : x_cp al' 10 0 = x_cp al 10 0 := by
  funext i
  unfold x_cp
  split
  · exact h _ (by omega)
  · exact h _ (by omega)
theorem p_run : z_P_run := by
  intro t hs se sf s s1 nx kp rw ic fi lc fl al cg sv ad ln lz ip ty ea fa po vb oa ob rs bf cm ht J
  refine ⟨z_Iv, J.Iv, fun al n mn h hm => h.pl hm, fun al rs bf cm n mn p h => i_does h, fun h => h.to h.1 (Nat.le_refl _) (Nat.le_refl _) (fun p hp => ?_) (fun j hj => ?_), ?_⟩
  · have := h.2.1
    exact x_cp_ne (by omega)
  · have := h.1
    exact x_cp_ne (by omega)
  have J0 := J
  obtain ⟨-, -, -, -, -, -, -, -, hea, hfa, -, -, -, -, hty, h60, hch⟩ := J0
  subst hty
  have hT : ∀ j, j < ic → fi j = ip j := fun j hj => by
    obtain ⟨m, -, -, q1, q2⟩ := hch j hj
    rw [q1, q2]
  have hr := z_read hT h60 po vb oa ob cm
  generalize eR : x_pr_read po vb oa ob ic fi = R at hr
  generalize eP : x_mo_parse ip ic cm = P at hr
  obtain ⟨v, pc, pp, po1, vb1, oa1, ob1⟩ := R
  obtain ⟨he, er, cm1, cn⟩ := P
  dsimp only at hr
  rcases hr with ⟨hv, her, hcn, h15, hrel⟩ | ⟨hv, hpp, her⟩
  · subst hv her hcn
    obtain ⟨s', al', rs', bf', h51, h⟩ := z_exec (B := 15 * t) (by omega) hrel pc 0 (x_cp al 0 10) rs bf s (by omega) J.1 J.r10
    rcases h with ⟨hE, hR, W2, R2⟩ | ⟨j, n', mn', hj, hE, hR⟩
    · have eA : x_am_run se sf s nx kp rw po vb oa ob ic fi = (.inl (nI pc), se, sf, s', (nx + 1) % 9, z_kcg kp, z_updR rw nx (z_cps s (rw nx)), pc, pp, po1, vb1, oa1, ob1, 0) := by
        unfold x_am_run
        rw [eR]
        dsimp only
        rw [if_pos rfl, hE]
        dsimp only
        rw [if_pos rfl, x_hi_keep_eq J.nx8 J.kp8]
        rfl
      have eM : x_mo_run al cg rs bf ip ic ea fa cm s.1 s.2.2.2.2.2.2.2.2.1 = (nI pc, 0, z_kal al' cg, z_kcg cg, nI pc, bf', 0, he, -1, ea, fa, cm1, pc) := by
        unfold x_mo_run
        rw [eP]
        dsimp only
        rw [if_pos (by decide), hR]
        dsimp only
        rw [if_pos rfl, z_ends0] <;> rfl
      rw [eA, eM]
      refine ⟨Or.inr (Or.inr ⟨rfl, rfl⟩), ?_⟩
      rcases z_change J (B := 15 * t + 14) (c := 0) (rs1 := nI pc) (al1 := al') (o := .inl (nI pc)) (s2 := s') (by omega) (Or.inl ⟨rfl, rfl, R2, z_wfB.mono W2 (by omega), h51⟩) with ⟨-, -, J2⟩ | ⟨-, -, ⟨c, -⟩ | ⟨c, -⟩ | ⟨c, -⟩⟩
      · exact J2.rst hea hfa
      · exact absurd c (by decide)
      · exact absurd c (by decide)
      · exact absurd c (by decide)
    · have hn1 : ¬ nI j = -1 := fun c => by
        have h0 : (0 : Int32) ≤ nI j := nI_pos' (by omega)
        rw [c] at h0
        exact absurd h0 (by decide)
      have eA : x_am_run se sf s nx kp rw po vb oa ob ic fi = (.inr "java/lang/IllegalStateException", se, nI j, z_cps (z_updR rw nx (z_cps s (rw nx)) nx) s', nx, kp, z_updR rw nx (z_cps s (rw nx)), pc, pp, po1, vb1, oa1, ob1, 0) := by
        unfold x_am_run
        rw [eR]
        dsimp only
        rw [if_pos rfl, hE]
        dsimp only
        rw [if_neg hn1]
        rfl
      have eM : x_mo_run al cg rs bf ip ic ea fa cm s.1 s.2.2.2.2.2.2.2.2.1 = (0, 2, x_cp al' 10 0, cg, nI pc, bf', 0, he, -1, ea, nI j, cm1, pc) := by
        unfold x_mo_run
        rw [eP]
        dsimp only
        rw [if_pos (by decide), hR]
        dsimp only
        rw [if_neg (by omega), z_ends2 (by decide)] <;> rfl
      have eU : z_updR rw nx (z_cps s (rw nx)) nx = z_cps s (rw nx) := if_pos rfl
      rw [eA, eM, eU, z_cpx h51]
      refine ⟨Or.inr (Or.inl ⟨rfl, rfl⟩), ?_⟩
      rcases z_change J (B := 15 * t) (c := 2) (rs1 := 0) (al1 := x_cp al 0 10) (o := .inr "java/lang/IllegalStateException") (s2 := s) (by omega) (Or.inr (Or.inr (Or.inl ⟨rfl, rfl, rfl, rfl⟩))) with ⟨c, -⟩ | ⟨-, J2, -⟩
      · exact absurd c (by decide)
      · exact (J2.smS (z_sm2 J.1 _ _)).rst hea rfl
  · subst hv her
    have eA : x_am_run se sf s nx kp rw po vb oa ob ic fi = (.inr "java/lang/IllegalArgumentException", nI pp, sf, s, nx, kp, rw, pc, pp, po1, vb1, oa1, ob1, 0) := by
      unfold x_am_run
      rw [eR]
      rfl
    have eM : x_mo_run al cg rs bf ip ic ea fa cm s.1 s.2.2.2.2.2.2.2.2.1 = (0, 1, al, cg, rs, bf, 0, he, nI pp, nI pp, fa, cm1, cn) := by
      unfold x_mo_run
      rw [eP]
      dsimp only
      rw [if_neg (fun c => absurd (nI_pos' (n := pp) (by omega)) (Int32.not_le.mpr c))]
    rw [eA, eM]
    exact ⟨Or.inl ⟨rfl, rfl⟩, J.up.rst rfl hfa⟩
end RUN