theorem z_succ4 {B : Nat} {al : Nat → Int32} {s : ZS} (W : z_wfB B s) (R : z_R al 0 s) : ∀ r k c, k + r = s.1 → x_am_successfulCount_4 s.2.2.2.2.2.1 r k c = x_mo_successfulCount_9 al s.1 r k c := by
  intro r
  induction r with
  | zero =>
    intro k c _
    rfl
  | succ r ih =>
    intro k c hk
    show x_am_successfulCount_4 s.2.2.2.2.2.1 r (k + 1) (c + z_bc (s.2.2.2.2.2.1 k)) = x_mo_successfulCount_9 al s.1 r (k + 1) (c + x_mo_size (x_mo_attackers al s.1 k))
    rw [z_atksz W R (by omega)]
    exact ih (k + 1) _ (by omega)
theorem z_atAt {B : Nat} {al : Nat → Int32} {s : ZS} (W : z_wfB B s) (R : z_R al 0 s) {xid xp : Int32} {v : Nat} (hv : v < s.1) (a : x_pl s.1 al xid = v + 1) (b : x_th s.1 al xid = true) : ∀ r k c, k + r = s.1 → (x_am_attackerAt_23 s.2.1 s.2.2.2.2.2.1 xp v r k c = .inl () ∧ x_mo_attackerAt_30 al s.1 xid xp r k c = .inl ()) ∨ ∃ w, x_am_attackerAt_23 s.2.1 s.2.2.2.2.2.1 xp v r k c = .inr (.inl w) ∧ x_mo_attackerAt_30 al s.1 xid xp r k c = .inr (w, 0) := by
  have h8 := W.1
  intro r
  induction r with
  | zero =>
    intro k c _
    exact Or.inl ⟨rfl, rfl⟩
  | succ r ih =>
    intro k c hk
    have u1 : x_am_attackerAt_23 s.2.1 s.2.2.2.2.2.1 xp v (r + 1) k c = if z_has (s.2.2.2.2.2.1 v) k then (if c = xp then .inr (.inl (s.2.1 k)) else x_am_attackerAt_23 s.2.1 s.2.2.2.2.2.1 xp v r (k + 1) (c + 1)) else x_am_attackerAt_23 s.2.1 s.2.2.2.2.2.1 xp v r (k + 1) c := rfl
    have u2 : x_mo_attackerAt_30 al s.1 xid xp (r + 1) k c = if (((x_mo_attackers al s.1 (x_pl s.1 al xid - 1)) >>> ((nI k) &&& 31)) &&& (1 : Int32)) = 1 then (if c = xp then .inr (al (7 + 3 * k + 0), (if x_th s.1 al xid then 0 else 1)) else x_mo_attackerAt_30 al s.1 xid xp r (k + 1) (c + (1 : Int32))) else x_mo_attackerAt_30 al s.1 xid xp r (k + 1) (c + (0 : Int32)) := rfl
    rw [u1, u2, a, Nat.add_sub_cancel, z_att W R hv, z_has_bt _ (by omega), b, R.id (by omega)]
    have z := z_bit1 (s.2.2.2.2.2.1 v) (j := k) (by omega)
    by_cases q : z_bi (s.2.2.2.2.2.1 v) k = true
    · rw [if_pos q, if_pos (z.mpr q)]
      by_cases e : c = xp
      · rw [if_pos e, if_pos e]
        exact Or.inr ⟨_, rfl, rfl⟩
      · rw [if_neg e, if_neg e]
        exact ih (k + 1) _ (by omega)
    · rw [if_neg q, if_neg (fun c => q (z.mp c)), Int32.add_zero]
      exact ih (k + 1) _ (by omega)
theorem z_in_lat {x : Int32} : x_mo_in x 32 126 = true ↔ ¬ x < 32 ∧ x ≤ 126 := by
  unfold x_mo_in
  by_cases h : x < 32
  · rw [if_pos h]
    exact ⟨fun c => (by cases c), fun c => absurd h c.1⟩
  · rw [if_neg h]
    by_cases h2 : (126 : Int32) < x
    · rw [if_pos h2]
      exact ⟨fun c => (by cases c), fun c => (Int32.lt_irrefl (Int32.lt_of_lt_of_le h2 c.2)).elim⟩
    · rw [if_neg h2]
      exact ⟨fun _ => ⟨h, Int32.not_lt.mp h2⟩, fun _ => rfl⟩
