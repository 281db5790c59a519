/-- what an operation of the two sides gives: a value and two related states, or a refusal that changes nothing -/
def z_op (B : Nat) (al : Nat → Int32) (s : ZS) (c : Int32) (al' : Nat → Int32) (rs' : Int32) (o : Int32 ⊕ String) (s' : ZS) : Prop :=
  (c = 0 ∧ o = .inl rs' ∧ z_R al' 0 s' ∧ z_wfB (B + 1) s' ∧ ∀ i, 51 ≤ i → al' i = al i) ∨ (c = 1 ∧ o = .inr "java/lang/IllegalArgumentException" ∧ s' = s ∧ al' = al) ∨ (c = 2 ∧ o = .inr "java/lang/IllegalStateException" ∧ s' = s ∧ al' = al) ∨ (c = 3 ∧ o = .inr "java/util/NoSuchElementException" ∧ s' = s ∧ al' = al)
theorem z_shift : ∀ (r k : Nat) (al : Nat → Int32) (i : Nat), x_mo_ends_61 r k al i = if 51 * k ≤ i ∧ i < 51 * (k + r) then al (i + 51) else al i := by
  intro r
  induction r with
  | zero =>
    intro k al i
    rw [if_neg (by omega)]
    rfl
  | succ r ih =>
    intro k al i
    show x_mo_ends_61 r (k + 1) (x_cp al (k + 1) k) i = _
    rw [ih]
    by_cases h : 51 * (k + 1) ≤ i ∧ i < 51 * (k + 1 + r)
    · rw [if_pos h, if_pos (by omega), x_cp_ne (by omega)]
    · rw [if_neg h]
      by_cases h2 : 51 * k ≤ i ∧ i < 51 * k + 51
      · rw [if_pos (by omega)]
        unfold x_cp
        rw [if_pos h2]
        congr 1
        omega
      · rw [if_neg (by omega), x_cp_ne (by omega)]
def z_kal (al : Nat → Int32) (cg : Nat) : Nat → Int32 := if cg = 8 then x_cp (x_mo_ends_61 7 1 al) 10 8 else x_cp al 10 (cg + 1)
def z_kcg (cg : Nat) : Nat := if cg = 8 then 8 else cg + 1
theorem z_ends0 {al : Nat → Int32} {cg : Nat} {rs x1 x2 x3 : Int32} : x_mo_ends al cg rs 0 x1 x2 x3 = (rs, 0, z_kal al cg, z_kcg cg) := by
  unfold x_mo_ends z_kal z_kcg
  rw [if_neg (by decide), if_neg (by decide), if_neg (by decide)]
  by_cases h : cg = 8
  · subst h
    rfl
  · rw [if_neg h, if_neg h, if_neg h]
theorem z_ends1 {al : Nat → Int32} {cg : Nat} {rs x1 x2 x3 : Int32} (h : x1 ≠ 0) : x_mo_ends al cg rs 1 x1 x2 x3 = (0, x1, x_cp al 10 0, cg) := by
  unfold x_mo_ends
  rw [if_pos rfl, if_neg h]
theorem z_ends2 {al : Nat → Int32} {cg : Nat} {rs x1 x2 x3 : Int32} (h : x2 ≠ 0) : x_mo_ends al cg rs 2 x1 x2 x3 = (0, x2, x_cp al 10 0, cg) := by
  unfold x_mo_ends
  rw [if_neg (by decide), if_pos rfl, if_neg h]
theorem z_ends3 {al : Nat → Int32} {cg : Nat} {rs x1 x2 x3 : Int32} (h : x3 ≠ 0) : x_mo_ends al cg rs 3 x1 x2 x3 = (0, x3, x_cp al 10 0, cg) := by
  unfold x_mo_ends
  rw [if_neg (by decide), if_neg (by decide), if_pos rfl, if_neg h]
theorem x_hi_keep_eq {nx kp : Nat} (h : nx ≤ 8) (h2 : kp ≤ 8) : x_hi_keep nx kp = ((nx + 1) % 9, z_kcg kp) := by
  unfold x_hi_keep z_kcg
  have e3 : (if kp + 1 < 8 then kp + 1 else 8) = if kp = 8 then 8 else kp + 1 := by
    split <;> split <;> omega
  rw [e3]
  by_cases e : nx = 8
  · subst e
    rw [if_pos rfl]
  · rw [if_neg e, Nat.mod_eq_of_lt (by omega)]
/-- a change: what the operation gives, carried through the histories of both sides -/
theorem z_change {t : Nat} {hs : Bool} {se : Int32} {sf : Int32} {s : ZS} {s1 : ZS} {nx : Nat} {kp : Nat} {rw : Nat → ZS} {ic : Nat} {fi : Nat → Int32} {lc : Nat} {fl : Nat → Int32} {al : Nat → Int32} {cg : Nat} {sv : Bool} {ad : Nat → Int32} {ln : Nat → Int32} {lz : Nat} {ip : Nat → Int32} {ty : Nat} {ea : Int32} {fa : Int32} (J : z_J t hs se sf s s1 nx kp rw ic fi lc fl al cg sv ad ln lz ip ty ea fa) {c rs1 : Int32} {al1 : Nat → Int32} {o : Int32 ⊕ String} {s2 : ZS} {B : Nat} (hB : B + 1 ≤ 15 * (t + 1)) (hop : z_op B (x_cp al 0 10) s c al1 rs1 o s2) :
    (c = 0 ∧ o = .inl rs1 ∧ z_J (t + 1) hs se sf s2 s1 ((nx + 1) % 9) (z_kcg kp) (z_updR rw nx (z_cps s (rw nx))) ic fi lc fl (z_kal al1 cg) (z_kcg cg) sv ad ln lz ip ty ea fa) ∨
    (s2 = s ∧ z_J (t + 1) hs se sf s s1 nx kp (z_updR rw nx (z_cps s (rw nx))) ic fi lc fl (x_cp al1 10 0) cg sv ad ln lz ip ty ea fa ∧ ((c = 1 ∧ o = .inr "java/lang/IllegalArgumentException") ∨ (c = 2 ∧ o = .inr "java/lang/IllegalStateException") ∨ (c = 3 ∧ o = .inr "java/util/NoSuchElementException"))) := by
  have W := J.1
  obtain ⟨a1, a2, a3, a4, a5, a6, a7, a8, a9⟩ := J.up
  have r10 : z_R (x_cp al 0 10) (51 * 10) s := z_R.cpTo (f := 0) (t := 10) a2 W.1 W.2.1
  have r0 : z_R (x_cp al 0 10) (51 * 0) s := z_R.cpNe (u := 0) a2 W.1 W.2.1 (by omega)
  have r9 : hs = true → z_wf (t + 1) s1 ∧ z_R (x_cp al 0 10) (51 * 9) s1 := fun q => ⟨(a4 q).1, z_R.cpNe (u := 9) (a4 q).2 (a4 q).1.1 (a4 q).1.2.1 (by omega)⟩
  have rh : ∀ i, i < kp → z_wf (t + 1) (rw ((nx + 8 - i) % 9)) ∧ z_R (x_cp al 0 10) (51 * (kp - i)) (rw ((nx + 8 - i) % 9)) := fun i hi => ⟨(a8 i hi).1, z_R.cpNe (a8 i hi).2 (a8 i hi).1.1 (a8 i hi).1.2.1 (by omega)⟩
  have hrw : ∀ i, i < kp → z_updR rw nx (z_cps s (rw nx)) ((nx + 8 - i) % 9) = rw ((nx + 8 - i) % 9) := fun i hi => by
    unfold z_updR
    rw [if_neg (by omega)]
  have fail : al1 = x_cp al 0 10 → z_J (t + 1) hs se sf s s1 nx kp (z_updR rw nx (z_cps s (rw nx))) ic fi lc fl (x_cp al1 10 0) cg sv ad ln lz ip ty ea fa := by
    intro e
    subst e
    refine ⟨a1, z_R.cpTo (f := 10) (t := 0) r10 W.1 W.2.1, a3, fun q => ⟨(r9 q).1, z_R.cpNe (u := 9) (t := 0) (r9 q).2 (r9 q).1.1 (r9 q).1.2.1 (by omega)⟩, a5, a6, a7, fun i hi => ?_, a9⟩
    rw [hrw i hi]
    exact ⟨(rh i hi).1, z_R.cpNe (rh i hi).2 (rh i hi).1.1 (rh i hi).1.2.1 (by omega)⟩
  rcases hop with ⟨hc, ho, hR, hw, hal⟩ | ⟨hc, ho, hs2, hal⟩ | ⟨hc, ho, hs2, hal⟩ | ⟨hc, ho, hs2, hal⟩
  · refine Or.inl ⟨hc, ho, ?_⟩
    have W2 : z_wf (t + 1) s2 := z_wfB.mono hw hB
    have g10 : z_R al1 (51 * 10) s := r10.congr W.1 W.2.1 (fun i hi => hal _ (by omega))
    have g9 : hs = true → z_R al1 (51 * 9) s1 := fun q => (r9 q).2.congr (r9 q).1.1 (r9 q).1.2.1 (fun i hi => hal _ (by omega))
    have gh : ∀ i, i < kp → z_R al1 (51 * (kp - i)) (rw ((nx + 8 - i) % 9)) := fun i hi => (rh i hi).2.congr (rh i hi).1.1 (rh i hi).1.2.1 (fun j hj => hal _ (by omega))
    subst a5
    refine ⟨W2, ?_, a3, fun q => ⟨(r9 q).1, ?_⟩, rfl, ?_, by show (nx + 1) % 9 ≤ 8; omega, fun i hi => ?_, a9⟩
    · show z_R (z_kal al1 kp) (51 * 0) s2
      unfold z_kal
      split
      · exact z_R.cpNe (u := 0) (z_R.congr (o := 51 * 0) hR W2.1 W2.2.1 (fun i hi => by rw [z_shift, if_neg (by omega)])) W2.1 W2.2.1 (by omega)
      · exact z_R.cpNe (u := 0) hR W2.1 W2.2.1 (by omega)
    · show z_R (z_kal al1 kp) (51 * 9) s1
      have w := (r9 q).1
      unfold z_kal
      split
      · exact z_R.cpNe (u := 9) (z_R.congr (o := 51 * 9) (g9 q) w.1 w.2.1 (fun i hi => by rw [z_shift, if_neg (by omega)])) w.1 w.2.1 (by omega)
      · exact z_R.cpNe (u := 9) (g9 q) w.1 w.2.1 (by omega)
    · show z_kcg kp ≤ 8
      unfold z_kcg
      split <;> omega
    · have hk : z_kcg kp = if kp = 8 then 8 else kp + 1 := rfl
      have hi : i < z_kcg kp := hi
      have hc1 : z_kcg kp ≤ kp + 1 := by
        rw [hk]
        split <;> omega
      show z_wf (t + 1) (z_updR rw nx (z_cps s (rw nx)) (((nx + 1) % 9 + 8 - i) % 9)) ∧ z_R (z_kal al1 kp) (51 * (z_kcg kp - i)) (z_updR rw nx (z_cps s (rw nx)) (((nx + 1) % 9 + 8 - i) % 9))
      by_cases h0 : i = 0
      · subst h0
        have e : ((nx + 1) % 9 + 8 - 0) % 9 = nx := by omega
        rw [e]
        have e2 : z_updR rw nx (z_cps s (rw nx)) nx = z_cps s (rw nx) := if_pos rfl
        rw [e2]
        refine ⟨z_wfB.sm a1 (z_cps_sm a1 _), z_R.sm ?_ (z_cps_sm a1 _)⟩
        unfold z_kal
        rw [hk]
        split
        · next h8 =>
          exact z_R.cpTo (f := 10) (t := 8) (z_R.congr (o := 51 * 10) g10 W.1 W.2.1 (fun i hi => by rw [z_shift, if_neg (by omega)])) W.1 W.2.1
        · next h8 =>
          exact z_R.cpTo (f := 10) (t := kp + 1) g10 W.1 W.2.1
      · have hi2 : i - 1 < kp := by omega
        have e : ((nx + 1) % 9 + 8 - i) % 9 = (nx + 8 - (i - 1)) % 9 := by omega
        rw [e, hrw (i - 1) hi2]
        have w := (rh (i - 1) hi2).1
        refine ⟨w, ?_⟩
        unfold z_kal
        rw [hk]
        split
        · next h8 =>
          have e8 : z_kcg kp = 8 := by
            rw [hk, if_pos h8]
          refine z_R.cpNe (u := 8 - i) (z_R.congr (al := fun j => al1 (j + 51)) ?_ w.1 w.2.1 (fun j hj => ?_)) w.1 w.2.1 (by omega)
          · have g := gh (i - 1) hi2
            have e3 : 51 * (kp - (i - 1)) = 51 * (8 - i) + 51 := by omega
            rw [e3] at g
            obtain ⟨q0, q1, q2, q3, q4, q5, q6, q7, q8⟩ := g
            have m : ∀ x, 51 * (8 - i) + x + 51 = 51 * (8 - i) + 51 + x := fun x => by omega
            refine ⟨?_, ?_, ?_, ?_, ?_, ?_, ?_, fun j hj => ?_, fun p hp => ?_⟩
            · exact (congrArg al1 (m 0)).trans q0
            · exact (congrArg al1 (m 1)).trans q1
            · exact (congrArg al1 (m 2)).trans q2
            · exact (congrArg al1 (m 3)).trans q3
            · exact (congrArg al1 (m 4)).trans q4
            · exact (congrArg al1 (m 5)).trans q5
            · exact (congrArg al1 (m 6)).trans q6
            · obtain ⟨f1, f2, f3, f4⟩ := q7 j hj
              exact ⟨(congrArg al1 (m _)).trans f1, (congrArg al1 (m _)).trans f2, (congrArg al1 (m _)).trans f3, (congrArg al1 (m _)).trans f4⟩
            · exact (congrArg al1 (m _)).trans (q8 p hp)
          · rw [z_shift, if_pos (by omega)]
        · next h8 =>
          have e3 : kp + 1 - i = kp - (i - 1) := by omega
          rw [e3]
          exact z_R.cpNe (gh (i - 1) hi2) w.1 w.2.1 (by omega)
  · exact Or.inr ⟨hs2, fail hal, Or.inl ⟨hc, ho⟩⟩
  · exact Or.inr ⟨hs2, fail hal, Or.inr (Or.inl ⟨hc, ho⟩)⟩
  · exact Or.inr ⟨hs2, fail hal, Or.inr (Or.inr ⟨hc, ho⟩)⟩
theorem x_am_change_eq {s : ZS} {nx kp k : Nat} {rw : Nat → ZS} {xa xb : Int32} (h : nx ≤ 8) (h2 : kp ≤ 8) : x_am_change s nx kp rw k xa xb = (match (x_apply k xa xb s).1 with
    | .inl v => (.inl v, (x_apply k xa xb s).2, (nx + 1) % 9, z_kcg kp, z_updR rw nx (z_cps s (rw nx)))
    | .inr e => (.inr e, (x_apply k xa xb s).2, nx, kp, z_updR rw nx (z_cps s (rw nx)))) := by
  have e : x_am_change s nx kp rw k xa xb = (match x_apply k xa xb s with
    | (.inl v3, y3_s) => (match x_hi_keep nx kp with | (y5_nx, y5_kp) => (.inl v3, y3_s, y5_nx, y5_kp, z_updR rw nx (z_cps s (rw nx))))
    | (.inr e3, y3_s) => (.inr e3, y3_s, nx, kp, z_updR rw nx (z_cps s (rw nx)))) := rfl
  rw [e, x_hi_keep_eq h h2]
  rcases x_apply k xa xb s with ⟨o, s2⟩
  cases o <;> rfl
