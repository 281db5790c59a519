/-- what an operation of the two sides gives: a value and two related states, or a refusal that changes nothing -/
def z_op (B : Nat) (al : Nat → Int32) (s : ZS) (c : Int32) (al' : Nat → Int32) (rs' : Int32) (o : Int32 ⊕ String) (s' : ZS) : Prop :=
  (c = 0 ∧ o = .inl rs' ∧ z_R al' 0 s' ∧ z_wfB (B + 1) s' ∧ ∀ i, 51 ≤ i → al' i = al i) ∨ (c = 1 ∧ o = .inr "java/lang/IllegalArgumentException" ∧ s' = s ∧ al' = al) ∨ (c = 2 ∧ o = .inr "java/lang/IllegalStateException" ∧ s' = s ∧ al' = al) ∨ (c = 3 ∧ o = .inr "java/util/NoSuchElementException" ∧ s' = s ∧ al' = al)
theorem z_shift : ∀ (r k : Nat) (al : Nat → Int32) (i : Nat), x_mo_ends_61 r k al i = if 51 * k ≤ i ∧ i < 51 * (k + r) then al (i + 51) else al i := by
  intro r
  induction r with
  | zero =>
    intro k al i
    rw [if_neg (by omega)]
    rfl
  | succ r ih =>
    intro k al i
    show x_mo_ends_61 r (k + 1) (x_cp al (k + 1) k) i = _
    rw [ih]
    by_cases h : 51 * (k + 1) ≤ i ∧ i < 51 * (k + 1 + r)
    · rw [if_pos h, if_pos (by omega), x_cp_ne (by omega)]
    · rw [if_neg h]
      by_cases h2 : 51 * k ≤ i ∧ i < 51 * k + 51
      · rw [if_pos (by omega)]
        unfold x_cp
        rw [if_pos h2]
        congr 1
        omega
      · rw [if_neg (by omega), x_cp_ne (by omega)]
def z_kal (al : Nat → Int32) (cg : Nat) : Nat → Int32 := if cg = 8 then x_cp (x_mo_ends_61 7 1 al) 10 8 else x_cp al 10 (cg + 1)
def z_kcg (cg : Nat) : Nat := if cg = 8 then 8 else cg + 1
theorem z_ends0 {al : Nat → Int32} {cg : Nat} {rs x1 x2 x3 : Int32} : x_mo_ends al cg rs 0 x1 x2 x3 = (rs, 0, z_kal al cg, z_kcg cg) := by
  unfold x_mo_ends z_kal z_kcg
  rw [if_neg (by decide), if_neg (by decide), if_neg (by decide)]
  by_cases h : cg = 8
  · subst h
    rfl
  · rw [if_neg h, if_neg h, if_neg h]
theorem z_ends1 {al : Nat → Int32} {cg : Nat} {rs x1 x2 x3 : Int32} (h : x1 ≠ 0) : x_mo_ends al cg rs 1 x1 x2 x3 = (0, x1, x_cp al 10 0, cg) := by
  unfold x_mo_ends
  rw [if_pos rfl, if_neg h]
theorem z_ends2 {al : Nat → Int32} {cg : Nat} {rs x1 x2 x3 : Int32} (h : x2 ≠ 0) : x_mo_ends al cg rs 2 x1 x2 x3 = (0, x2, x_cp al 10 0, cg) := by
  unfold x_mo_ends
  rw [if_neg (by decide), if_pos rfl, if_neg h]
theorem z_ends3 {al : Nat → Int32} {cg : Nat} {rs x1 x2 x3 : Int32} (h : x3 ≠ 0) : x_mo_ends al cg rs 3 x1 x2 x3 = (0, x3, x_cp al 10 0, cg) := by
  unfold x_mo_ends
  rw [if_neg (by decide), if_neg (by decide), if_pos rfl, if_neg h]
theorem x_hi_keep_eq {nx kp : Nat} (h : nx ≤ 8) (h2 : kp ≤ 8) : x_hi_keep nx kp = ((nx + 1) % 9, z_kcg kp) := by
  unfold x_hi_keep z_kcg
  have e3 : (if kp + 1 < 8 then kp + 1 else 8) = if kp = 8 then 8 else kp + 1 := by
    split <;> split <;> omega
  rw [e3]
  by_cases e : nx = 8
  · subst e
    rw [if_pos rfl]
  · rw [if_neg e, Nat.mod_eq_of_lt (by omega)]
theorem x_am_change_eq {s : ZS} {nx kp k : Nat} {rw : Nat → ZS} {xa xb : Int32} (h : nx ≤ 8) (h2 : kp ≤ 8) : x_am_change s nx kp rw k xa xb = (match (x_apply k xa xb s).1 with
    | .inl v => (.inl v, (x_apply k xa xb s).2, (nx + 1) % 9, z_kcg kp, z_updR rw nx (z_cps s (rw nx)))
    | .inr e => (.inr e, (x_apply k xa xb s).2, nx, kp, z_updR rw nx (z_cps s (rw nx)))) := by
  have e : x_am_change s nx kp rw k xa xb = (match x_apply k xa xb s with
    | (.inl v3, y3_s) => (match x_hi_keep nx kp with | (y5_nx, y5_kp) => (.inl v3, y3_s, y5_nx, y5_kp, z_updR rw nx (z_cps s (rw nx))))
    | (.inr e3, y3_s) => (.inr e3, y3_s, nx, kp, z_updR rw nx (z_cps s (rw nx)))) := rfl
  rw [e, x_hi_keep_eq h h2]
  rcases x_apply k xa xb s with ⟨o, s2⟩
  cases o <;> rfl
