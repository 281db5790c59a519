theorem z_faC {wt ag tg wt' ag' tg' : Nat → Int32} {j n : Nat} (hj : j < n) (h : ∀ i, i < n → wt' i = wt i ∧ ag' i = ag i ∧ tg' i = tg i) : ∀ r k c, k + r = n → x_st_findAttackers_17 wt' ag' tg' j r k c = x_st_findAttackers_17 wt ag tg j r k c := by
  intro r
  induction r with
  | zero =>
    intro k c _
    rfl
  | succ r ih =>
    intro k c hk
    have u1 : ∀ (w a t : Nat → Int32), x_st_findAttackers_17 w a t j (r + 1) k c = if z_has (t k) j then (if x_st_strength w a k < x_st_strength w a j then x_st_findAttackers_17 w a t j r (k + 1) c else x_st_findAttackers_17 w a t j r (k + 1) (c ||| ((1 : Int32) <<< ((nI k) &&& 31)))) else x_st_findAttackers_17 w a t j r (k + 1) c := fun _ _ _ => rfl
    obtain ⟨a1, a2, a3⟩ := h k (by omega)
    obtain ⟨b1, b2, b3⟩ := h j hj
    have s1 : x_st_strength wt' ag' k = x_st_strength wt ag k := by
      unfold x_st_strength
      rw [a1, a2]
    have s2 : x_st_strength wt' ag' j = x_st_strength wt ag j := by
      unfold x_st_strength
      rw [b1, b2]
    rw [u1, u1, a3, s1, s2, ih (k + 1) _ (by omega), ih (k + 1) _ (by omega)]
/-- two states that are one, but for what lies beyond their counts -/
def z_sm (s s' : ZS) : Prop :=
  s'.1 = s.1 ∧ (∀ j, j < s.1 → s'.2.1 j = s.2.1 j ∧ s'.2.2.1 j = s.2.2.1 j ∧ s'.2.2.2.1 j = s.2.2.2.1 j ∧ s'.2.2.2.2.1 j = s.2.2.2.2.1 j ∧ s'.2.2.2.2.2.1 j = s.2.2.2.2.2.1 j) ∧
  s'.2.2.2.2.2.2.1 = s.2.2.2.2.2.2.1 ∧ s'.2.2.2.2.2.2.2.1 = s.2.2.2.2.2.2.2.1 ∧ s'.2.2.2.2.2.2.2.2.1 = s.2.2.2.2.2.2.2.2.1 ∧ (∀ p, p < s.2.2.2.2.2.2.2.2.1 → s'.2.2.2.2.2.2.2.2.2.1 p = s.2.2.2.2.2.2.2.2.2.1 p) ∧ s'.2.2.2.2.2.2.2.2.2.2 = s.2.2.2.2.2.2.2.2.2.2
theorem z_ctC {tg tg' : Nat → Int32} : ∀ n, (∀ i, i < n → tg' i = tg i) → z_ct tg' n = z_ct tg n := by
  intro n
  induction n with
  | zero =>
    intro _
    rfl
  | succ n ih =>
    intro h
    show z_ct tg' n + z_cn (tg' n) 8 = z_ct tg n + z_cn (tg n) 8
    rw [ih (fun i hi => h i (by omega)), h n (by omega)]
theorem z_wfB.sm {B : Nat} {s s' : ZS} (W : z_wfB B s) (e : z_sm s s') : z_wfB B s' := by
  obtain ⟨n, id, wt, ag, tg, att, ni, dy, mn, mv, tot⟩ := s
  obtain ⟨n', id', wt', ag', tg', att', ni', dy', mn', mv', tot'⟩ := s'
  obtain ⟨e1, e2, e3, e4, e5, e6, e7⟩ := e
  dsimp only at e1 e2 e3 e4 e5 e6 e7
  subst e1 e3 e4 e5 e7
  obtain ⟨w1, w2, ⟨k, k1, k2, k3⟩, w4, w5, w6, w7, w8, w9, w10⟩ := W
  dsimp only at w1 w2 k2 k3 w4 w5 w6 w7 w8 w9 w10
  refine ⟨w1, w2, ⟨k, k1, k2, fun j hj => ?_⟩, fun i j hij hj => ?_, fun j hj => ?_, fun j hj => ?_, fun j hj => ?_, fun j hj => ?_, fun p hp => ?_, ?_⟩
  · rw [show (n', id', wt', ag', tg', att', ni', dy', mn', mv', tot').2.1 j = id j from (e2 j hj).1]
    exact k3 j hj
  · show id' i ≠ id' j
    rw [(e2 i (by dsimp only at hj; omega)).1, (e2 j hj).1]
    exact w4 i j hij hj
  · show ∃ m, 1 ≤ m ∧ m ≤ 9 ∧ wt' j = nI m
    rw [(e2 j hj).2.1]
    exact w5 j hj
  · show ∃ m, m ≤ 90 ∧ ag' j = nI m
    rw [(e2 j hj).2.2.1]
    exact w6 j hj
  · show ∃ m, m < 2 ^ n' ∧ tg' j = nI m
    rw [(e2 j hj).2.2.2.1]
    exact w7 j hj
  · show att' j = x_st_findAttackers_17 wt' ag' tg' j n' 0 0
    rw [(e2 j hj).2.2.2.2, w8 j hj]
    exact (z_faC hj (fun i hi => ⟨(e2 i hi).2.1, (e2 i hi).2.2.1, (e2 i hi).2.2.2.1⟩) n' 0 0 (by omega)).symm
  · show ∃ j, j < n' ∧ mv' p = id' j
    obtain ⟨j, hj, ej⟩ := w9 p hp
    exact ⟨j, hj, by rw [e6 p hp, (e2 j hj).1]; exact ej⟩
  · show z_ct tg' n' ≤ 20
    rw [z_ctC n' (fun i hi => (e2 i hi).2.2.2.1)]
    exact w10
theorem z_R.sm {al : Nat → Int32} {o : Nat} {s s' : ZS} (R : z_R al o s) (e : z_sm s s') : z_R al o s' := by
  obtain ⟨n, id, wt, ag, tg, att, ni, dy, mn, mv, tot⟩ := s
  obtain ⟨n', id', wt', ag', tg', att', ni', dy', mn', mv', tot'⟩ := s'
  obtain ⟨e1, e2, e3, e4, e5, e6, e7⟩ := e
  dsimp only at e1 e2 e3 e4 e5 e6 e7
  subst e1 e3 e4 e5 e7
  obtain ⟨r0, r1, r2, r3, r4, r5, r6, r7, r8⟩ := R
  refine ⟨r0, r1, r2, r3, r4, r5, r6, fun j hj => ?_, fun p hp => ?_⟩
  · obtain ⟨a, b, c, d⟩ := r7 j hj
    obtain ⟨f1, f2, f3, f4, -⟩ := e2 j hj
    exact ⟨a.trans f1.symm, b.trans f2.symm, c.trans f3.symm, d.trans f4.symm⟩
  · exact (r8 p hp).trans (e6 p hp).symm
/-- s copied over d -/
def z_cps (s d : ZS) : ZS := (s.1, va_cpy s.2.1 d.2.1 0 0 8, va_cpy s.2.2.1 d.2.2.1 0 0 8, va_cpy s.2.2.2.1 d.2.2.2.1 0 0 8, va_cpy s.2.2.2.2.1 d.2.2.2.2.1 0 0 8, va_cpy s.2.2.2.2.2.1 d.2.2.2.2.2.1 0 0 8, s.2.2.2.2.2.2.1, s.2.2.2.2.2.2.2.1, s.2.2.2.2.2.2.2.2.1, va_cpy s.2.2.2.2.2.2.2.2.2.1 d.2.2.2.2.2.2.2.2.2.1 0 0 12, s.2.2.2.2.2.2.2.2.2.2.1, s.2.2.2.2.2.2.2.2.2.2.2.1, s.2.2.2.2.2.2.2.2.2.2.2.2)
theorem z_cpy {f g : Nat → Int32} {n j : Nat} (h : j < n) : va_cpy f g 0 0 n j = f j := by
  unfold va_cpy
  rw [if_pos (by omega), Nat.zero_add, Nat.sub_zero]
theorem z_cps_sm {B : Nat} {s : ZS} (W : z_wfB B s) (d : ZS) : z_sm s (z_cps s d) := by
  have h1 := W.1
  have h2 := W.2.1
  exact ⟨rfl, fun j hj => ⟨z_cpy (by omega), z_cpy (by omega), z_cpy (by omega), z_cpy (by omega), z_cpy (by omega)⟩, rfl, rfl, rfl, fun p hp => z_cpy (by omega), rfl⟩
theorem z_R.cpTo {al : Nat → Int32} {f t : Nat} {s : ZS} (R : z_R al (51 * f) s) (h1 : s.1 ≤ 8) (h2 : s.2.2.2.2.2.2.2.2.1 ≤ 12) : z_R (x_cp al f t) (51 * t) s := by
  obtain ⟨r0, r1, r2, r3, r4, r5, r6, r7, r8⟩ := R
  refine ⟨(x_cp_in (by omega)).trans r0, (x_cp_in (by omega)).trans r1, (x_cp_in (by omega)).trans r2, (x_cp_in (by omega)).trans r3, (x_cp_in (by omega)).trans r4, (x_cp_in (by omega)).trans r5, (x_cp_in (by omega)).trans r6, fun j hj => ?_, fun p hp => (x_cp_in (by omega)).trans (r8 p hp)⟩
  obtain ⟨a, b, c, d⟩ := r7 j hj
  exact ⟨(x_cp_in (by omega)).trans a, (x_cp_in (by omega)).trans b, (x_cp_in (by omega)).trans c, (x_cp_in (by omega)).trans d⟩
/-- what a row tells lies in its 51 places -/
theorem z_R.congr {al al' : Nat → Int32} {o : Nat} {s : ZS} (R : z_R al o s) (h1 : s.1 ≤ 8) (h2 : s.2.2.2.2.2.2.2.2.1 ≤ 12) (h : ∀ i, i < 51 → al' (o + i) = al (o + i)) : z_R al' o s := by
  obtain ⟨r0, r1, r2, r3, r4, r5, r6, r7, r8⟩ := R
  refine ⟨(h _ (by omega)).trans r0, (h _ (by omega)).trans r1, (h _ (by omega)).trans r2, (h _ (by omega)).trans r3, (h _ (by omega)).trans r4, (h _ (by omega)).trans r5, (h _ (by omega)).trans r6, fun j hj => ?_, fun p hp => (h _ (by omega)).trans (r8 p hp)⟩
  obtain ⟨a, b, c, d⟩ := r7 j hj
  exact ⟨(h _ (by omega)).trans a, (h _ (by omega)).trans b, (h _ (by omega)).trans c, (h _ (by omega)).trans d⟩
theorem z_R.cpNe {al : Nat → Int32} {f t u : Nat} {s : ZS} (R : z_R al (51 * u) s) (h1 : s.1 ≤ 8) (h2 : s.2.2.2.2.2.2.2.2.1 ≤ 12) (hu : u ≠ t) : z_R (x_cp al f t) (51 * u) s :=
  R.congr h1 h2 (fun i hi => x_cp_ne (by omega))
theorem p_save : z_P_save := by
  intro t hs se sf s s1 nx kp rw ic fi lc fl al cg sv ad ln lz ip ty ea fa ht J
  have J2 := J.up
  obtain ⟨a1, a2, a3, a4, a5, a6, a7, a8, a9⟩ := J2
  have W := J.1
  refine ⟨?_, a1, ?_, rfl, fun _ => ⟨a1.sm (z_cps_sm a1 s1), ?_⟩, a5, a6, a7, fun i hi => ⟨(a8 i hi).1, ?_⟩, a9⟩
  · show nI s.1 = x_cp al 0 9 0
    rw [x_cp_ne (by omega)]
    exact J.n0.1.symm
  · exact z_R.cpNe (u := 0) a2 W.1 W.2.1 (by omega)
  · exact (z_R.cpTo (f := 0) (t := 9) a2 W.1 W.2.1).sm (z_cps_sm a1 s1)
  · have w8 := (a8 i hi).1
    exact z_R.cpNe (a8 i hi).2 w8.1 w8.2.1 (by omega)
theorem p_restore : z_P_restore := by
  intro t hs se sf s s1 nx kp rw ic fi lc fl al cg sv ad ln lz ip ty ea fa ht J
  have J2 := J.up
  obtain ⟨a1, a2, a3, a4, a5, a6, a7, a8, a9⟩ := J2
  subst a3
  cases hs with
  | false => exact ⟨Or.inl ⟨rfl, rfl⟩, a1, a2, rfl, a4, a5, a6, a7, a8, a9⟩
  | true =>
    obtain ⟨w, r⟩ := a4 rfl
    refine ⟨Or.inr ⟨rfl, ?_⟩, w.sm (z_cps_sm w s), ?_, rfl, fun _ => ⟨w, ?_⟩, rfl, Nat.zero_le 8, a7, fun i hi => absurd hi (Nat.not_lt_zero i), a9⟩
    · show Sum.inl (some (Value.int (nI s1.1))) = Sum.inl (some (Value.int (x_cp al 9 0 0)))
      have e : x_cp al 9 0 0 = nI s1.1 := (x_cp_in (f := 9) (t := 0) (k := 0) (by omega)).trans r.1
      rw [e]
    · exact (z_R.cpTo (f := 9) (t := 0) r w.1 w.2.1).sm (z_cps_sm w s)
    · exact z_R.cpNe (u := 9) (t := 0) r w.1 w.2.1 (by omega)
theorem x_hi_prev_mod {nx : Nat} (h : nx ≤ 8) : x_hi_prev nx = (nx + 8) % 9 := by
  unfold x_hi_prev
  split
  · next e =>
    subst e
    rfl
  · omega
theorem p_undo : z_P_undo := by
  intro t hs se sf s s1 nx kp rw ic fi lc fl al cg sv ad ln lz ip ty ea fa ht J
  have J2 := J.up
  obtain ⟨a1, a2, a3, a4, a5, a6, a7, a8, a9⟩ := J2
  subst a5
  by_cases h0 : kp = 0
  · subst h0
    exact ⟨Or.inl ⟨rfl, rfl⟩, a1, a2, a3, a4, rfl, a6, a7, a8, a9⟩
  · obtain ⟨w, r⟩ := a8 0 (by omega)
    have e : (nx + 8 - 0) % 9 = x_hi_prev nx := (x_hi_prev_mod a7).symm
    rw [e] at w r
    have u1 : x_am_undo s nx kp rw = (.inl (nI (kp - 1)), z_cps (rw (x_hi_prev nx)) s, x_hi_prev nx, kp - 1) := by
      unfold x_am_undo
      rw [if_neg h0]
      rfl
    have u2 : x_mo_undo al kp = (nI (kp - 1), 0, x_cp al kp 0, kp - 1) := by
      unfold x_mo_undo
      rw [if_neg (by omega)]
    rw [u1, u2]
    refine ⟨Or.inr ⟨rfl, rfl⟩, w.sm (z_cps_sm w s), ?_, a3, fun q => ⟨(a4 q).1, ?_⟩, rfl, (by show kp - 1 ≤ 8; omega), (by show x_hi_prev nx ≤ 8; rw [x_hi_prev_mod a7]; omega), fun i hi => ?_, a9⟩
    · exact (z_R.cpTo (f := kp) (t := 0) r w.1 w.2.1).sm (z_cps_sm w s)
    · exact z_R.cpNe (u := 9) (t := 0) (a4 q).2 (a4 q).1.1 (a4 q).1.2.1 (by omega)
    · have hi : i < kp - 1 := hi
      obtain ⟨w2, r2⟩ := a8 (i + 1) (by omega)
      have e2 : (x_hi_prev nx + 8 - i) % 9 = (nx + 8 - (i + 1)) % 9 := by
        rw [x_hi_prev_mod a7]
        omega
      show z_wf (t + 1) (rw ((x_hi_prev nx + 8 - i) % 9)) ∧ z_R (x_cp al kp 0) (51 * (kp - 1 - i)) (rw ((x_hi_prev nx + 8 - i) % 9))
      rw [e2]
      refine ⟨w2, ?_⟩
      have e3 : kp - 1 - i = kp - (i + 1) := by omega
      rw [e3]
      exact z_R.cpNe r2 w2.1 w2.2.1 (by omega)
