def x_mo_hasCycle_22 (al : Nat → Int32) (n : Nat) : Nat → Nat → (Int32) → (Bool) → (Int32) × (Bool)
  | 0, _, c22_1, c22_2 => (c22_1, c22_2)
  | r + 1, k, c22_1, c22_2 => (if ((c22_1 >>> ((nI (k)) &&& 31)) &&& (1 : Int32)) = (0) then x_mo_hasCycle_22 al n r (k + 1) c22_1 c22_2 else (if ((x_mo_attackers al n k) &&& c22_1) = (0) then x_mo_hasCycle_22 al n r (k + 1) (c22_1 &&& (((1 : Int32) <<< ((nI (k)) &&& 31)) ^^^ (-1 : Int32))) true else x_mo_hasCycle_22 al n r (k + 1) c22_1 c22_2))
theorem z_bi_clr {x : Int32} {k j : Nat} (hk : k < 32) (hj : j < 32) : z_bi (x &&& (((1 : Int32) <<< ((nI k) &&& 31)) ^^^ (-1 : Int32))) j = (z_bi x j && !decide (j = k)) := by
  rw [z_bi_and, z_bi_not _ hj, z_bi_shl hk hj]
theorem z_hc22 {al : Nat → Int32} {n : Nat} (hn : n ≤ 8) : ∀ (r k : Nat) (c : Int32) (b : Bool), k + r = n → (∀ j, j < 32 → z_bi (x_mo_hasCycle_22 al n r k c b).1 j = true → z_bi c j = true) ∧ ((x_mo_hasCycle_22 al n r k c b).2 = true → b = true ∨ ∃ j, j < n ∧ z_bi c j = true ∧ z_bi (x_mo_hasCycle_22 al n r k c b).1 j = false) := by
  intro r
  induction r with
  | zero =>
    intro k c b _
    exact ⟨fun j _ h => h, fun h => Or.inl h⟩
  | succ r ih =>
    intro k c b hk
    simp only [x_mo_hasCycle_22]
    split
    · exact ih _ _ _ (by omega)
    · next e =>
      split
      · obtain ⟨i1, i2⟩ := ih (k + 1) (c &&& (((1 : Int32) <<< ((nI k) &&& 31)) ^^^ (-1 : Int32))) true (by omega)
        have hc : z_bi c k = true := by
          cases q : z_bi c k with
          | true => rfl
          | false => exact absurd ((z_bit0 c (by omega)).mpr q) e
        refine ⟨fun j hj h => ?_, fun _ => Or.inr ⟨k, by omega, hc, ?_⟩⟩
        · have := i1 j hj h
          rw [z_bi_clr (by omega) hj, Bool.and_eq_true] at this
          exact this.1
        · cases q : z_bi (x_mo_hasCycle_22 al n r (k + 1) (c &&& (((1 : Int32) <<< ((nI k) &&& 31)) ^^^ (-1 : Int32))) true).1 k with
          | false => rfl
          | true =>
            have := i1 k (by omega) q
            rw [z_bi_clr (by omega) (by omega)] at this
            simp at this
      · exact ih _ _ _ (by omega)
theorem z_hc_more {al : Nat → Int32} {n : Nat} (hn : n ≤ 8) (left : Int32) (h : (x_mo_hasCycle_22 al n n 0 left false).2 = true) : z_cn (x_mo_hasCycle_22 al n n 0 left false).1 n < z_cn left n := by
  obtain ⟨i1, i2⟩ := z_hc22 (al := al) hn n 0 left false (by omega)
  rcases i2 h with q | ⟨j, hj, h1, h2⟩
  · cases q
  · exact z_cn_lt n (fun i hi => i1 i (by omega)) ⟨j, hj, h2, h1⟩
/-- what is left when passes take away what has no attackers; r passes may follow -/
def x_hc_14 (al : Nat → Int32) (n : Nat) : Nat → Int32 → Int32
  | 0, left => left
  | r + 1, left => (match x_mo_hasCycle_22 al n n 0 left false with | (a1_0, a1_1) => (if a1_1 then x_hc_14 al n r a1_0 else a1_0))
def x_mo_hasCycle (al : Nat → Int32) (n : Nat) : (Bool) × (Int32) := (let a3_0 := x_hc_14 al n (n + 1) (nI (2 ^ n - 1)); (if (a3_0) = (0) then (false, 0) else (true, 0)))
def x_mo_hasCycleBySearch (al : Nat → Int32) (n : Nat) : (Bool) × (Int32) := (match x_mo_hasCycle al n with | (v1, y1_th) => (v1, y1_th))
