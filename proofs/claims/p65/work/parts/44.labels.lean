/-- bit j of x -/
def z_bi (x : Int32) (j : Nat) : Bool := x.toBitVec.getLsbD j
theorem z_bi_ext {x y : Int32} (h : ∀ j, j < 32 → z_bi x j = z_bi y j) : x = y := by
  apply Int32.toBitVec_inj.mp
  apply BitVec.eq_of_getLsbD_eq
  intro i hi
  exact h i hi
theorem z_bi_0 (j : Nat) : z_bi 0 j = false := by
  show (0 : BitVec 32).getLsbD j = false
  simp
theorem z_bi_or (x y : Int32) (j : Nat) : z_bi (x ||| y) j = (z_bi x j || z_bi y j) := by
  unfold z_bi
  rw [Int32.toBitVec_or, BitVec.getLsbD_or]
theorem z_bi_and (x y : Int32) (j : Nat) : z_bi (x &&& y) j = (z_bi x j && z_bi y j) := by
  unfold z_bi
  rw [Int32.toBitVec_and, BitVec.getLsbD_and]
theorem z_bi_xor (x y : Int32) (j : Nat) : z_bi (x ^^^ y) j = (z_bi x j ^^ z_bi y j) := by
  unfold z_bi
  rw [Int32.toBitVec_xor, BitVec.getLsbD_xor]
theorem z_bi_m1 {j : Nat} (hj : j < 32) : z_bi (-1) j = true := by
  have h : ∀ j, j < 32 → z_bi (-1) j = true := by decide +kernel
  exact h j hj
theorem z_bi_not (x : Int32) {j : Nat} (hj : j < 32) : z_bi (x ^^^ (-1)) j = !z_bi x j := by
  rw [z_bi_xor, z_bi_m1 hj, Bool.xor_true]
theorem z_bi_shl {k j : Nat} (hk : k < 32) (hj : j < 32) : z_bi ((1 : Int32) <<< (nI k &&& 31)) j = decide (j = k) := by
  have h : ∀ k, k < 32 → ∀ j, j < 32 → z_bi ((1 : Int32) <<< (nI k &&& 31)) j = decide (j = k) := by decide +kernel
  exact h k hk j hj
theorem z_bi_1 (x : Int32) : x &&& 1 = 0 ↔ z_bi x 0 = false := by
  constructor
  · intro h
    have q := z_bi_and x 1 0
    rw [h, z_bi_0] at q
    have e : z_bi 1 0 = true := by decide
    rw [e, Bool.and_true] at q
    exact q.symm
  · intro h
    refine z_bi_ext (fun j hj => ?_)
    rw [z_bi_and, z_bi_0]
    by_cases e : j = 0
    · subst e
      rw [h]
      rfl
    · have e1 : ∀ j, j < 32 → j ≠ 0 → z_bi 1 j = false := by decide +kernel
      rw [e1 j hj e, Bool.and_false]
theorem z_bi_shr (x : Int32) {j : Nat} (hj : j < 32) : z_bi (x >>> (nI j &&& 31)) 0 = z_bi x j := by
  unfold z_bi
  have e : ∀ j, j < 32 → ((nI j &&& 31).toBitVec.smod 32).toNat = j := by decide +kernel
  rw [Int32.toBitVec_shiftRight, BitVec.sshiftRight', e j hj, BitVec.getLsbD_sshiftRight]
  simp
  omega
theorem z_bit0 (x : Int32) {j : Nat} (hj : j < 32) : (x >>> (nI j &&& 31)) &&& 1 = 0 ↔ z_bi x j = false := by
  rw [z_bi_1, z_bi_shr x hj]
theorem z_bit1 (x : Int32) {j : Nat} (hj : j < 32) : (x >>> (nI j &&& 31)) &&& 1 = 1 ↔ z_bi x j = true := by
  constructor
  · intro h
    cases e : z_bi x j with
    | true => rfl
    | false =>
      rw [(z_bit0 x hj).mpr e] at h
      exact absurd h (by decide)
  · intro h
    refine z_bi_ext (fun i hi => ?_)
    rw [z_bi_and]
    by_cases e : i = 0
    · subst e
      rw [z_bi_shr x hj, h]
      rfl
    · have e1 : ∀ j, j < 32 → j ≠ 0 → z_bi 1 j = false := by decide +kernel
      rw [e1 i hi e, Bool.and_false]
theorem z_has_bt (x : Int32) {j : Nat} (hj : j < 32) : z_has x j = z_bi x j := by
  unfold z_has
  cases e : z_bi x j with
  | true => rw [decide_eq_false (fun q => by rw [(z_bit0 x hj).mp q] at e; cases e)]; rfl
  | false => rw [decide_eq_true ((z_bit0 x hj).mpr e)]; rfl
/-- how many of the first n bits are set -/
def z_cn (x : Int32) : Nat → Nat
  | 0 => 0
  | k + 1 => z_cn x k + if z_bi x k then 1 else 0
theorem z_cn_le (x : Int32) : ∀ n, z_cn x n ≤ n := by
  intro n
  induction n with
  | zero => exact Nat.le_refl _
  | succ n ih =>
    simp only [z_cn]
    split <;> omega
theorem z_cn_mono {x y : Int32} : ∀ n, (∀ j, j < n → z_bi x j = true → z_bi y j = true) → z_cn x n ≤ z_cn y n := by
  intro n
  induction n with
  | zero => intro _; exact Nat.le_refl _
  | succ n ih =>
    intro h
    have := ih (fun j hj => h j (by omega))
    simp only [z_cn]
    by_cases e : z_bi x n = true
    · rw [if_pos e, if_pos (h n (by omega) e)]
      omega
    · rw [if_neg e]
      split <;> omega
theorem z_cn_lt {x y : Int32} : ∀ n, (∀ j, j < n → z_bi x j = true → z_bi y j = true) → (∃ j, j < n ∧ z_bi x j = false ∧ z_bi y j = true) → z_cn x n < z_cn y n := by
  intro n
  induction n with
  | zero =>
    rintro _ ⟨j, hj, -⟩
    omega
  | succ n ih =>
    rintro h ⟨j, hj, h1, h2⟩
    simp only [z_cn]
    by_cases e : j = n
    · subst e
      have := z_cn_mono j (fun i hi => h i (by omega))
      rw [h1, h2]
      simp
      omega
    · have := ih (fun i hi => h i (by omega)) ⟨j, by omega, h1, h2⟩
      by_cases e : z_bi x n = true
      · rw [if_pos e, if_pos (h n (by omega) e)]
        omega
      · rw [if_neg e]
        split <;> omega
def x_mo_labels_7 (al : Nat → Int32) (ac : Int32) (rj : Int32) (n : Nat) : Nat → Nat → (Int32) → (Int32)
  | 0, _, c7_2 => c7_2
  | r + 1, k, c7_2 => (if (((ac ||| rj) >>> ((nI (k)) &&& 31)) &&& (1 : Int32)) = (0) then (if ((x_mo_attackers al n k) &&& (rj ^^^ (-1 : Int32))) = (0) then x_mo_labels_7 al ac rj n r (k + 1) (c7_2 ||| ((1 : Int32) <<< ((nI (k)) &&& 31))) else x_mo_labels_7 al ac rj n r (k + 1) c7_2) else x_mo_labels_7 al ac rj n r (k + 1) c7_2)
def x_mo_labels_77 (al : Nat → Int32) (ac : Int32) (rj : Int32) (n : Nat) (a1_0 : Int32) : Nat → Nat → (Int32) → (Int32)
  | 0, _, c77_3 => c77_3
  | r + 1, kk, c77_3 => (if ((((ac ||| a1_0) ||| rj) >>> ((nI (kk)) &&& 31)) &&& (1 : Int32)) = (0) then (if ((x_mo_attackers al n kk) &&& (ac ||| a1_0)) = (0) then x_mo_labels_77 al ac rj n a1_0 r (kk + 1) c77_3 else x_mo_labels_77 al ac rj n a1_0 r (kk + 1) (c77_3 ||| ((1 : Int32) <<< ((nI (kk)) &&& 31)))) else x_mo_labels_77 al ac rj n a1_0 r (kk + 1) c77_3)
def x_mo_labels_145 (xr : Int32) (a1_0 : Int32) (a4_0 : Int32) : Nat → Nat → (Nat → Int32) → (Nat → Int32)
  | 0, _, ro_145 => ro_145
  | r + 1, kkk, ro_145 => (if (((a1_0 ||| a4_0) >>> ((nI (kkk)) &&& 31)) &&& (1 : Int32)) = (1) then x_mo_labels_145 xr a1_0 a4_0 r (kkk + 1) (upd ro_145 kkk (xr)) else x_mo_labels_145 xr a1_0 a4_0 r (kkk + 1) (upd ro_145 kkk (ro_145 kkk)))
def x_mo_labels (al : Nat → Int32) (ac : Int32) (rj : Int32) (ro : Nat → Int32) (n : Nat) (xr : Int32) : (Bool) × (Int32) × (Int32) × (Nat → Int32) := (let a1_0 := x_mo_labels_7 al ac rj n n 0 0; (let a4_0 := x_mo_labels_77 al ac rj n a1_0 n 0 0; (let a9_0 := x_mo_labels_145 xr a1_0 a4_0 n 0 ro; (if (a1_0 ||| a4_0) = (0) then (false, ac ||| a1_0, rj ||| a4_0, a9_0) else (true, ac ||| a1_0, rj ||| a4_0, a9_0)))))
