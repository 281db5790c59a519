theorem z_faC {wt ag tg wt' ag' tg' : Nat → Int32} {j n : Nat} (hj : j < n) (h : ∀ i, i < n → wt' i = wt i ∧ ag' i = ag i ∧ tg' i = tg i) : ∀ r k c, k + r = n → x_st_findAttackers_17 wt' ag' tg' j r k c = x_st_findAttackers_17 wt ag tg j r k c := by
  intro r
  induction r with
  | zero =>
    intro k c _
    rfl
  | succ r ih =>
    intro k c hk
    have u1 : ∀ (w a t : Nat → Int32), x_st_findAttackers_17 w a t j (r + 1) k c = if z_has (t k) j then (if x_st_strength w a k < x_st_strength w a j then x_st_findAttackers_17 w a t j r (k + 1) c else x_st_findAttackers_17 w a t j r (k + 1) (c ||| ((1 : Int32) <<< ((nI k) &&& 31)))) else x_st_findAttackers_17 w a t j r (k + 1) c := fun _ _ _ => rfl
    obtain ⟨a1, a2, a3⟩ := h k (by omega)
    obtain ⟨b1, b2, b3⟩ := h j hj
    have s1 : x_st_strength wt' ag' k = x_st_strength wt ag k := by
      unfold x_st_strength
      rw [a1, a2]
    have s2 : x_st_strength wt' ag' j = x_st_strength wt ag j := by
      unfold x_st_strength
      rw [b1, b2]
    rw [u1, u1, a3, s1, s2, ih (k + 1) _ (by omega), ih (k + 1) _ (by omega)]
/-- two states that are one, but for what lies beyond their counts -/
def z_sm (s s' : ZS) : Prop :=
  s'.1 = s.1 ∧ (∀ j, j < s.1 → s'.2.1 j = s.2.1 j ∧ s'.2.2.1 j = s.2.2.1 j ∧ s'.2.2.2.1 j = s.2.2.2.1 j ∧ s'.2.2.2.2.1 j = s.2.2.2.2.1 j ∧ s'.2.2.2.2.2.1 j = s.2.2.2.2.2.1 j) ∧
  s'.2.2.2.2.2.2.1 = s.2.2.2.2.2.2.1 ∧ s'.2.2.2.2.2.2.2.1 = s.2.2.2.2.2.2.2.1 ∧ s'.2.2.2.2.2.2.2.2.1 = s.2.2.2.2.2.2.2.2.1 ∧ (∀ p, p < s.2.2.2.2.2.2.2.2.1 → s'.2.2.2.2.2.2.2.2.2.1 p = s.2.2.2.2.2.2.2.2.2.1 p) ∧ s'.2.2.2.2.2.2.2.2.2.2 = s.2.2.2.2.2.2.2.2.2.2
theorem z_ctC {tg tg' : Nat → Int32} : ∀ n, (∀ i, i < n → tg' i = tg i) → z_ct tg' n = z_ct tg n := by
  intro n
  induction n with
  | zero =>
    intro _
    rfl
  | succ n ih =>
    intro h
    show z_ct tg' n + z_cn (tg' n) 8 = z_ct tg n + z_cn (tg n) 8
    rw [ih (fun i hi => h i (by omega)), h n (by omega)]
theorem z_wfB.sm {B : Nat} {s s' : ZS} (W : z_wfB B s) (e : z_sm s s') : z_wfB B s' := by
  obtain ⟨n, id, wt, ag, tg, att, ni, dy, mn, mv, tot⟩ := s
  obtain ⟨n', id', wt', ag', tg', att', ni', dy', mn', mv', tot'⟩ := s'
  obtain ⟨e1, e2, e3, e4, e5, e6, e7⟩ := e
  dsimp only at e1 e2 e3 e4 e5 e6 e7
  subst e1 e3 e4 e5 e7
  obtain ⟨w1, w2, ⟨k, k1, k2, k3⟩, w4, w5, w6, w7, w8, w9, w10⟩ := W
  dsimp only at w1 w2 k2 k3 w4 w5 w6 w7 w8 w9 w10
  refine ⟨w1, w2, ⟨k, k1, k2, fun j hj => ?_⟩, fun i j hij hj => ?_, fun j hj => ?_, fun j hj => ?_, fun j hj => ?_, fun j hj => ?_, fun p hp => ?_, ?_⟩
  · rw [show (n', id', wt', ag', tg', att', ni', dy', mn', mv', tot').2.1 j = id j from (e2 j hj).1]
    exact k3 j hj
  · show id' i ≠ id' j
    rw [(e2 i (by dsimp only at hj; omega)).1, (e2 j hj).1]
    exact w4 i j hij hj
  · show ∃ m, 1 ≤ m ∧ m ≤ 9 ∧ wt' j = nI m
    rw [(e2 j hj).2.1]
    exact w5 j hj
  · show ∃ m, m ≤ 90 ∧ ag' j = nI m
    rw [(e2 j hj).2.2.1]
    exact w6 j hj
  · show ∃ m, m < 2 ^ n' ∧ tg' j = nI m
    rw [(e2 j hj).2.2.2.1]
    exact w7 j hj
  · show att' j = x_st_findAttackers_17 wt' ag' tg' j n' 0 0
    rw [(e2 j hj).2.2.2.2, w8 j hj]
    exact (z_faC hj (fun i hi => ⟨(e2 i hi).2.1, (e2 i hi).2.2.1, (e2 i hi).2.2.2.1⟩) n' 0 0 (by omega)).symm
  · show ∃ j, j < n' ∧ mv' p = id' j
    obtain ⟨j, hj, ej⟩ := w9 p hp
    exact ⟨j, hj, by rw [e6 p hp, (e2 j hj).1]; exact ej⟩
  · show z_ct tg' n' ≤ 20
    rw [z_ctC n' (fun i hi => (e2 i hi).2.2.2.1)]
    exact w10
theorem z_R.sm {al : Nat → Int32} {o : Nat} {s s' : ZS} (R : z_R al o s) (e : z_sm s s') : z_R al o s' := by
  obtain ⟨n, id, wt, ag, tg, att, ni, dy, mn, mv, tot⟩ := s
  obtain ⟨n', id', wt', ag', tg', att', ni', dy', mn', mv', tot'⟩ := s'
  obtain ⟨e1, e2, e3, e4, e5, e6, e7⟩ := e
  dsimp only at e1 e2 e3 e4 e5 e6 e7
  subst e1 e3 e4 e5 e7
  obtain ⟨r0, r1, r2, r3, r4, r5, r6, r7, r8⟩ := R
  refine ⟨r0, r1, r2, r3, r4, r5, r6, fun j hj => ?_, fun p hp => ?_⟩
  · obtain ⟨a, b, c, d⟩ := r7 j hj
    obtain ⟨f1, f2, f3, f4, -⟩ := e2 j hj
    exact ⟨a.trans f1.symm, b.trans f2.symm, c.trans f3.symm, d.trans f4.symm⟩
  · exact (r8 p hp).trans (e6 p hp).symm
/-- s copied over d -/
def z_cps (s d : ZS) : ZS := (s.1, va_cpy s.2.1 d.2.1 0 0 8, va_cpy s.2.2.1 d.2.2.1 0 0 8, va_cpy s.2.2.2.1 d.2.2.2.1 0 0 8, va_cpy s.2.2.2.2.1 d.2.2.2.2.1 0 0 8, va_cpy s.2.2.2.2.2.1 d.2.2.2.2.2.1 0 0 8, s.2.2.2.2.2.2.1, s.2.2.2.2.2.2.2.1, s.2.2.2.2.2.2.2.2.1, va_cpy s.2.2.2.2.2.2.2.2.2.1 d.2.2.2.2.2.2.2.2.2.1 0 0 12, s.2.2.2.2.2.2.2.2.2.2.1, s.2.2.2.2.2.2.2.2.2.2.2.1, s.2.2.2.2.2.2.2.2.2.2.2.2)
theorem z_cpy {f g : Nat → Int32} {n j : Nat} (h : j < n) : va_cpy f g 0 0 n j = f j := by
  unfold va_cpy
  rw [if_pos (by omega), Nat.zero_add, Nat.sub_zero]
theorem z_cps_sm {B : Nat} {s : ZS} (W : z_wfB B s) (d : ZS) : z_sm s (z_cps s d) := by
  have h1 := W.1
  have h2 := W.2.1
  exact ⟨rfl, fun j hj => ⟨z_cpy (by omega), z_cpy (by omega), z_cpy (by omega), z_cpy (by omega), z_cpy (by omega)⟩, rfl, rfl, rfl, fun p hp => z_cpy (by omega), rfl⟩
theorem z_R.cpTo {al : Nat → Int32} {f t : Nat} {s : ZS} (R : z_R al (51 * f) s) (h1 : s.1 ≤ 8) (h2 : s.2.2.2.2.2.2.2.2.1 ≤ 12) : z_R (x_cp al f t) (51 * t) s := by
  obtain ⟨r0, r1, r2, r3, r4, r5, r6, r7, r8⟩ := R
  refine ⟨(x_cp_in (by omega)).trans r0, (x_cp_in (by omega)).trans r1, (x_cp_in (by omega)).trans r2, (x_cp_in (by omega)).trans r3, (x_cp_in (by omega)).trans r4, (x_cp_in (by omega)).trans r5, (x_cp_in (by omega)).trans r6, fun j hj => ?_, fun p hp => (x_cp_in (by omega)).trans (r8 p hp)⟩
  obtain ⟨a, b, c, d⟩ := r7 j hj
  exact ⟨(x_cp_in (by omega)).trans a, (x_cp_in (by omega)).trans b, (x_cp_in (by omega)).trans c, (x_cp_in (by omega)).trans d⟩
/-- what a row tells lies in its 51 places -/
theorem z_R.congr {al al' : Nat → Int32} {o : Nat} {s : ZS} (R : z_R al o s) (h1 : s.1 ≤ 8) (h2 : s.2.2.2.2.2.2.2.2.1 ≤ 12) (h : ∀ i, i < 51 → al' (o + i) = al (o + i)) : z_R al' o s := by
  obtain ⟨r0, r1, r2, r3, r4, r5, r6, r7, r8⟩ := R
  refine ⟨(h _ (by omega)).trans r0, (h _ (by omega)).trans r1, (h _ (by omega)).trans r2, (h _ (by omega)).trans r3, (h _ (by omega)).trans r4, (h _ (by omega)).trans r5, (h _ (by omega)).trans r6, fun j hj => ?_, fun p hp => (h _ (by omega)).trans (r8 p hp)⟩
  obtain ⟨a, b, c, d⟩ := r7 j hj
  exact ⟨(h _ (by omega)).trans a, (h _ (by omega)).trans b, (h _ (by omega)).trans c, (h _ (by omega)).trans d⟩
theorem z_R.cpNe {al : Nat → Int32} {f t u : Nat} {s : ZS} (R : z_R al (51 * u) s) (h1 : s.1 ≤ 8) (h2 : s.2.2.2.2.2.2.2.2.1 ≤ 12) (hu : u ≠ t) : z_R (x_cp al f t) (51 * u) s :=
  R.congr h1 h2 (fun i hi => x_cp_ne (by omega))
theorem x_hi_prev_mod {nx : Nat} (h : nx ≤ 8) : x_hi_prev nx = (nx + 8) % 9 := by
  unfold x_hi_prev
  split
  · next e =>
    subst e
    rfl
  · omega
