section MONO
variable {ip : Nat → Int32} {ty he a : Nat} {er b v xs xa xb xc : Int32}
theorem z_ndE (h : x_mo_needs ip ty he er xs = (a, b)) : he ≤ a := by
  unfold x_mo_needs at h
  repeat' (split at h)
  all_goals (cases h; omega)
theorem z_ltE (h : x_mo_letters ip ty he er xa xb xc = (a, b)) : he ≤ a := by
  unfold x_mo_letters at h
  repeat' (split at h)
  cases h
  exact Nat.le_trans (z_ndE (by with_reducible assumption)) (Nat.le_trans (z_ndE (by with_reducible assumption)) (z_ndE (by with_reducible assumption)))
theorem z_bh43 : ∀ (r k : Nat) (c : Int32) (he : Nat), he ≤ (x_mo_behind_43 ip ty r k c he).2 := by
  intro r
  induction r with
  | zero => intros; exact Nat.le_refl _
  | succ r ih =>
    intro k c he
    simp only [x_mo_behind_43]
    split
    · exact Nat.le_trans (Nat.le_succ _) (ih _ _ _)
    · exact Nat.le_refl _
theorem z_bhE {mx : Nat} (h : x_mo_behind ip ty he er xs mx = (v, a, b)) : he ≤ a := by
  unfold x_mo_behind at h
  split at h
  next y1 y2 h1 =>
  have e1 := z_ndE h1
  split at h
  · split at h
    · split at h
      next c1 c2 h2 =>
      have e2 := z_bh43 (ip := ip) (ty := ty) mx 0 0 y1
      rw [h2] at e2
      cases h
      exact Nat.le_trans e1 e2
    · cases h
      exact e1
  · cases h
    exact e1
theorem z_agE (h : x_mo_again ip ty he er = (v, a, b)) : he ≤ a := by
  unfold x_mo_again at h
  repeat' (split at h)
  all_goals cases h
  all_goals first | exact z_ndE (by with_reducible assumption) | exact Nat.le_trans (z_ndE (by with_reducible assumption)) (z_ltE (by with_reducible assumption)) | exact Nat.le_trans (z_ndE (by with_reducible assumption)) (Nat.le_trans (z_ltE (by with_reducible assumption)) (z_ndE (by with_reducible assumption)))
theorem z_wdE (h : x_mo_word ip ty he er xs = (v, a, b)) : he ≤ a := by
  unfold x_mo_word at h
  repeat' (split at h)
  all_goals cases h
  all_goals first | exact z_ltE (by with_reducible assumption) | exact z_agE (by with_reducible assumption) | exact Nat.le_trans (z_ltE (by with_reducible assumption)) (z_ndE (by with_reducible assumption)) | exact Nat.le_trans (z_ndE (by with_reducible assumption)) (z_ndE (by with_reducible assumption)) | exact Nat.le_trans (z_ltE (by with_reducible assumption)) (Nat.le_trans (z_ndE (by with_reducible assumption)) (z_ndE (by with_reducible assumption)))
theorem z_cmE {cm c : Nat → Int32} {cn d : Nat} (h : x_mo_command ip ty he er cm cn = (a, b, c, d)) : he ≤ a ∧ d = cn + 1 := by
  unfold x_mo_command at h
  generalize x_mo_command_24 cn 3 0 cm = a3 at h
  dsimp only at h
  by_cases c1 : x_mo_isFirst (x_mo_sign ip ty he) = true
  · rw [if_pos c1] at h
    rcases hw : x_mo_word ip ty (he + 1) er (x_mo_sign ip ty he) with ⟨v7, y7, e7⟩
    rw [hw] at h
    dsimp only at h
    have e1 := z_wdE hw
    clear hw
    by_cases d0 : v7 = 97
    · rw [if_pos d0] at h
      rcases hb0 : x_mo_behind ip ty y7 e7 32 1 with ⟨v0, z0, g0⟩
      rw [hb0] at h
      dsimp only at h
      have f0 := z_bhE hb0
      clear hb0
      injection h with h1 h2
      injection h2 with h2 h3
      injection h3 with h3 h4
      exact ⟨by omega, h4.symm⟩
    · rw [if_neg d0] at h
      by_cases d1 : v7 = 98
      · rw [if_pos d1] at h
        injection h with h1 h2
        injection h2 with h2 h3
        injection h3 with h3 h4
        exact ⟨by omega, h4.symm⟩
      · rw [if_neg d1] at h
        by_cases d2 : v7 = 101
        · rw [if_pos d2] at h
          injection h with h1 h2
          injection h2 with h2 h3
          injection h3 with h3 h4
          exact ⟨by omega, h4.symm⟩
        · rw [if_neg d2] at h
          by_cases d3 : v7 = 116
          · rw [if_pos d3] at h
            rcases hb0 : x_mo_behind ip ty y7 e7 32 2 with ⟨v0, z0, g0⟩
            rw [hb0] at h
            dsimp only at h
            have f0 := z_bhE hb0
            clear hb0
            rcases hb1 : x_mo_behind ip ty z0 g0 62 2 with ⟨v1, z1, g1⟩
            rw [hb1] at h
            dsimp only at h
            have f1 := z_bhE hb1
            clear hb1
            injection h with h1 h2
            injection h2 with h2 h3
            injection h3 with h3 h4
            exact ⟨by omega, h4.symm⟩
          · rw [if_neg d3] at h
            by_cases d4 : v7 = 119
            · rw [if_pos d4] at h
              rcases hb0 : x_mo_behind ip ty y7 e7 32 2 with ⟨v0, z0, g0⟩
              rw [hb0] at h
              dsimp only at h
              have f0 := z_bhE hb0
              clear hb0
              rcases hb1 : x_mo_behind ip ty z0 g0 32 1 with ⟨v1, z1, g1⟩
              rw [hb1] at h
              dsimp only at h
              have f1 := z_bhE hb1
              clear hb1
              injection h with h1 h2
              injection h2 with h2 h3
              injection h3 with h3 h4
              exact ⟨by omega, h4.symm⟩
            · rw [if_neg d4] at h
              by_cases d5 : v7 = 121
              · rw [if_pos d5] at h
                rcases hb0 : x_mo_behind ip ty y7 e7 32 2 with ⟨v0, z0, g0⟩
                rw [hb0] at h
                dsimp only at h
                have f0 := z_bhE hb0
                clear hb0
                rcases hb1 : x_mo_behind ip ty z0 g0 62 2 with ⟨v1, z1, g1⟩
                rw [hb1] at h
                dsimp only at h
                have f1 := z_bhE hb1
                clear hb1
                injection h with h1 h2
                injection h2 with h2 h3
                injection h3 with h3 h4
                exact ⟨by omega, h4.symm⟩
              · rw [if_neg d5] at h
                rcases hb0 : x_mo_behind ip ty y7 e7 32 2 with ⟨v0, z0, g0⟩
                rw [hb0] at h
                dsimp only at h
                have f0 := z_bhE hb0
                clear hb0
                injection h with h1 h2
                injection h2 with h2 h3
                injection h3 with h3 h4
                exact ⟨by omega, h4.symm⟩
  · rw [if_neg c1] at h
    injection h with h1 h2
    injection h2 with h2 h3
    injection h3 with h3 h4
    exact ⟨by omega, h4.symm⟩
end MONO