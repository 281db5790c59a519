/-! the law's world: the object, its state s, its line -/
def z_X (h : q_H) (s : ZS) (lc : Nat) (fl : Nat → Int32) : Prop := ∃ (hs : Bool) (se sf : Int32) (s1 : ZS) (nx kp : Nat) (rw : Nat → ZS) (ic : Nat) (fi : Nat → Int32), nx ≤ 8 ∧ kp ≤ 8 ∧ z_C h hs se sf s s1 nx kp rw ic fi lc fl
theorem z_X.obj {h : q_H} {s : ZS} {lc : Nat} {fl : Nat → Int32} (X : z_X h s lc fl) : ∃ fs, h.2 100 = some (.inr (11, fs)) := by
  obtain ⟨hs, se, sf, s1, nx, kp, rw, ic, fi, q1, q2, s2, ca, cj, co, won, lost, pf, cv, sc, pc, pp, po, vb, oa, ob, w⟩ := X
  exact ⟨_, w.1.c0⟩
theorem z_X.s0 {h : q_H} {s : ZS} {lc : Nat} {fl : Nat → Int32} (X : z_X h s lc fl) : 215 ≤ h.1 := by
  obtain ⟨hs, se, sf, s1, nx, kp, rw, ic, fi, q1, q2, s2, ca, cj, co, won, lost, pf, cv, sc, pc, pp, po, vb, oa, ob, w⟩ := X
  obtain ⟨sam, sst, ssv, slt, shs, slb, sga, sex, spr, ssb⟩ := w
  exact ssb.s0
def z_opP (h : q_H) (lc : Nat) (fl : Nat → Int32) (B : Nat) (ns : Nat → Prop) : q_O → q_H → Prop := fun o h1 => ∃ (w : Int32) (s' : ZS), o = .inl (some (.int w)) ∧ z_X h1 s' lc fl ∧ q_zone h h1 100 115 ∧ z_V B s' ∧ ns s'.1
theorem k_addArgument {g : q_G} {h : q_H} {d : Nat} {s : ZS} {lc : Nat} {fl : Nat → Int32} (X : z_X h s lc fl) (xa : Int32) (hd : 12 ≤ d) : q_Spec g mX10_addArgument d 4 24 [.ref (100), .int (xa)] h (q_chg (q_oI (x_apply 0 xa 0 s).1) (fun h1 => z_X h1 (x_apply 0 xa 0 s).2 lc fl ∧ q_zone h h1 100 115)) := by
  obtain ⟨hs, se, sf, s1, nx, kp, rw, ic, fi, q1, q2, s2, ca, cj, co, won, lost, pf, cv, sc, pc, pp, po, vb, oa, ob, w⟩ := X
  have ea : x_am_addArgument s nx kp rw xa = x_am_change s nx kp rw 0 xa 0 := am_eta
  obtain ⟨c1, c2, c3, c4⟩ := am_change (s := s) (k := 0) (rw := rw) (xa := xa) (xb := 0) q1 q2
  refine q_Spec_mono (c_addArgument (g := g) (d := d) w xa hd) (fun o h1 hQ => ?_)
  obtain ⟨e, x, y⟩ := hQ
  rw [ea] at e x
  rw [c1] at e
  rw [c2] at x
  exact ⟨e, ⟨hs, se, sf, s1, _, _, _, ic, fi, c3, c4, x⟩, y⟩
theorem w_addArgument {g : q_G} {h : q_H} {d : Nat} {s : ZS} {lc : Nat} {fl : Nat → Int32} {B : Nat} (X : z_X h s lc fl) (V : z_V B s) (hB : B < 2 ^ 30) (xa : Int32) (hd : 13 ≤ d) : q_Spec g mL_addArgument d 4 24 [.ref 100, .int xa] h (z_opP h lc fl (B + 1) (fun n => n = s.1 ∨ n = s.1 + 1)) := by
  obtain ⟨fs, hr⟩ := X.obj
  obtain ⟨V1, V2, V3⟩ := V.add hB xa 0
  have ho : (∃ v, q_oI (x_apply 0 xa 0 s).1 = .inl (some (.int v))) ∨ (q_oI (x_apply 0 xa 0 s).1 = .inr "java/lang/IllegalArgumentException") ∨ (q_oI (x_apply 0 xa 0 s).1 = .inr "java/lang/IllegalStateException") := by
    rcases V3 with ⟨v, ev⟩ | ev | ev
    · exact Or.inl ⟨v, by rw [ev]; rfl⟩
    · exact Or.inr (Or.inl (by rw [ev]; rfl))
    · exact Or.inr (Or.inr (by rw [ev]; rfl))
  have sp := k_addArgument (g := g) (d := d - 1) X xa (by omega)
  refine q_Spec_mono (e_L_addArgument (dd := d - 1) hr ho (by omega) sp) (fun o h1 hQ => ?_)
  exact ⟨_, _, hQ.1, hQ.2.1, hQ.2.2, V1, V2⟩
theorem k_removeArgument {g : q_G} {h : q_H} {d : Nat} {s : ZS} {lc : Nat} {fl : Nat → Int32} (X : z_X h s lc fl) (xa : Int32) (hd : 12 ≤ d) : q_Spec g mX10_removeArgument d 4 24 [.ref (100), .int (xa)] h (q_chg (q_oI (x_apply 1 xa 0 s).1) (fun h1 => z_X h1 (x_apply 1 xa 0 s).2 lc fl ∧ q_zone h h1 100 115)) := by
  obtain ⟨hs, se, sf, s1, nx, kp, rw, ic, fi, q1, q2, s2, ca, cj, co, won, lost, pf, cv, sc, pc, pp, po, vb, oa, ob, w⟩ := X
  have ea : x_am_removeArgument s nx kp rw xa = x_am_change s nx kp rw 1 xa 0 := am_eta
  obtain ⟨c1, c2, c3, c4⟩ := am_change (s := s) (k := 1) (rw := rw) (xa := xa) (xb := 0) q1 q2
  refine q_Spec_mono (c_removeArgument (g := g) (d := d) w xa hd) (fun o h1 hQ => ?_)
  obtain ⟨e, x, y⟩ := hQ
  rw [ea] at e x
  rw [c1] at e
  rw [c2] at x
  exact ⟨e, ⟨hs, se, sf, s1, _, _, _, ic, fi, c3, c4, x⟩, y⟩
theorem w_removeArgument {g : q_G} {h : q_H} {d : Nat} {s : ZS} {lc : Nat} {fl : Nat → Int32} {B : Nat} (X : z_X h s lc fl) (V : z_V B s) (hB : B < 2 ^ 30) (xa : Int32) (hd : 13 ≤ d) : q_Spec g mL_removeArgument d 4 24 [.ref 100, .int xa] h (z_opP h lc fl (B + 1) (fun n => n = s.1 ∨ n = s.1 - 1)) := by
  obtain ⟨fs, hr⟩ := X.obj
  obtain ⟨V1, V2, V3⟩ := V.remove xa 0
  have ho : (∃ v, q_oI (x_apply 1 xa 0 s).1 = .inl (some (.int v))) ∨ (q_oI (x_apply 1 xa 0 s).1 = .inr "java/util/NoSuchElementException") := by
    rcases V3 with ⟨v, ev⟩ | ev
    · exact Or.inl ⟨v, by rw [ev]; rfl⟩
    · exact Or.inr (by rw [ev]; rfl)
  have sp := k_removeArgument (g := g) (d := d - 1) X xa (by omega)
  refine q_Spec_mono (e_L_removeArgument (dd := d - 1) hr ho (by omega) sp) (fun o h1 hQ => ?_)
  exact ⟨_, _, hQ.1, hQ.2.1, hQ.2.2, V1, V2⟩
theorem k_addAttack {g : q_G} {h : q_H} {d : Nat} {s : ZS} {lc : Nat} {fl : Nat → Int32} (X : z_X h s lc fl) (xa : Int32) (xb : Int32) (hd : 12 ≤ d) : q_Spec g mX10_addAttack d 4 24 [.ref (100), .int (xa), .int (xb)] h (q_chg (q_oI (x_apply 2 xa xb s).1) (fun h1 => z_X h1 (x_apply 2 xa xb s).2 lc fl ∧ q_zone h h1 100 115)) := by
  obtain ⟨hs, se, sf, s1, nx, kp, rw, ic, fi, q1, q2, s2, ca, cj, co, won, lost, pf, cv, sc, pc, pp, po, vb, oa, ob, w⟩ := X
  have ea : x_am_addAttack s nx kp rw xa xb = x_am_change s nx kp rw 2 xa xb := am_eta
  obtain ⟨c1, c2, c3, c4⟩ := am_change (s := s) (k := 2) (rw := rw) (xa := xa) (xb := xb) q1 q2
  refine q_Spec_mono (c_addAttack (g := g) (d := d) w xa xb hd) (fun o h1 hQ => ?_)
  obtain ⟨e, x, y⟩ := hQ
  rw [ea] at e x
  rw [c1] at e
  rw [c2] at x
  exact ⟨e, ⟨hs, se, sf, s1, _, _, _, ic, fi, c3, c4, x⟩, y⟩
theorem w_addAttack {g : q_G} {h : q_H} {d : Nat} {s : ZS} {lc : Nat} {fl : Nat → Int32} {B : Nat} (X : z_X h s lc fl) (V : z_V B s) (hB : B < 2 ^ 30) (xa : Int32) (xb : Int32) (hd : 13 ≤ d) : q_Spec g mL_addAttack d 4 24 [.ref 100, .int xa, .int xb] h (z_opP h lc fl (B + 1) (fun n => n = s.1)) := by
  obtain ⟨fs, hr⟩ := X.obj
  obtain ⟨V1, V2, V3⟩ := V.leads xa xb
  have ho : (∃ v, q_oI (x_apply 2 xa xb s).1 = .inl (some (.int v))) ∨ (q_oI (x_apply 2 xa xb s).1 = .inr "java/util/NoSuchElementException") ∨ (q_oI (x_apply 2 xa xb s).1 = .inr "java/lang/IllegalArgumentException") ∨ (q_oI (x_apply 2 xa xb s).1 = .inr "java/lang/IllegalStateException") := by
    rcases V3 with ⟨v, ev⟩ | ⟨E9, hE, ev⟩
    · exact Or.inl ⟨v, by rw [ev]; rfl⟩
    · simp only [List.mem_cons, List.not_mem_nil, or_false] at hE
      rcases hE with rfl | rfl | rfl
      · exact Or.inr (Or.inl (by rw [ev]; rfl))
      · exact Or.inr (Or.inr (Or.inl (by rw [ev]; rfl)))
      · exact Or.inr (Or.inr (Or.inr (by rw [ev]; rfl)))
  have sp := k_addAttack (g := g) (d := d - 1) X xa xb (by omega)
  refine q_Spec_mono (e_L_addAttack (dd := d - 1) hr ho (by omega) sp) (fun o h1 hQ => ?_)
  exact ⟨_, _, hQ.1, hQ.2.1, hQ.2.2, V1, V2⟩
theorem k_removeAttack {g : q_G} {h : q_H} {d : Nat} {s : ZS} {lc : Nat} {fl : Nat → Int32} (X : z_X h s lc fl) (xa : Int32) (xb : Int32) (hd : 12 ≤ d) : q_Spec g mX10_removeAttack d 4 24 [.ref (100), .int (xa), .int (xb)] h (q_chg (q_oI (x_apply 3 xa xb s).1) (fun h1 => z_X h1 (x_apply 3 xa xb s).2 lc fl ∧ q_zone h h1 100 115)) := by
  obtain ⟨hs, se, sf, s1, nx, kp, rw, ic, fi, q1, q2, s2, ca, cj, co, won, lost, pf, cv, sc, pc, pp, po, vb, oa, ob, w⟩ := X
  have ea : x_am_removeAttack s nx kp rw xa xb = x_am_change s nx kp rw 3 xa xb := am_eta
  obtain ⟨c1, c2, c3, c4⟩ := am_change (s := s) (k := 3) (rw := rw) (xa := xa) (xb := xb) q1 q2
  refine q_Spec_mono (c_removeAttack (g := g) (d := d) w xa xb hd) (fun o h1 hQ => ?_)
  obtain ⟨e, x, y⟩ := hQ
  rw [ea] at e x
  rw [c1] at e
  rw [c2] at x
  exact ⟨e, ⟨hs, se, sf, s1, _, _, _, ic, fi, c3, c4, x⟩, y⟩
theorem w_removeAttack {g : q_G} {h : q_H} {d : Nat} {s : ZS} {lc : Nat} {fl : Nat → Int32} {B : Nat} (X : z_X h s lc fl) (V : z_V B s) (hB : B < 2 ^ 30) (xa : Int32) (xb : Int32) (hd : 13 ≤ d) : q_Spec g mL_removeAttack d 4 24 [.ref 100, .int xa, .int xb] h (z_opP h lc fl (B + 1) (fun n => n = s.1)) := by
  obtain ⟨fs, hr⟩ := X.obj
  obtain ⟨V1, V2, V3⟩ := V.yields xa xb
  have ho : (∃ v, q_oI (x_apply 3 xa xb s).1 = .inl (some (.int v))) ∨ (q_oI (x_apply 3 xa xb s).1 = .inr "java/util/NoSuchElementException") := by
    rcases V3 with ⟨v, ev⟩ | ⟨E9, hE, ev⟩
    · exact Or.inl ⟨v, by rw [ev]; rfl⟩
    · simp only [List.mem_cons, List.not_mem_nil, or_false] at hE
      rcases hE with rfl
      · exact Or.inr (by rw [ev]; rfl)
  have sp := k_removeAttack (g := g) (d := d - 1) X xa xb (by omega)
  refine q_Spec_mono (e_L_removeAttack (dd := d - 1) hr ho (by omega) sp) (fun o h1 hQ => ?_)
  exact ⟨_, _, hQ.1, hQ.2.1, hQ.2.2, V1, V2⟩
theorem k_setWeight {g : q_G} {h : q_H} {d : Nat} {s : ZS} {lc : Nat} {fl : Nat → Int32} (X : z_X h s lc fl) (xa : Int32) (xb : Int32) (hd : 12 ≤ d) : q_Spec g mX10_setWeight d 4 24 [.ref (100), .int (xa), .int (xb)] h (q_chg (q_oI (x_apply 4 xa xb s).1) (fun h1 => z_X h1 (x_apply 4 xa xb s).2 lc fl ∧ q_zone h h1 100 115)) := by
  obtain ⟨hs, se, sf, s1, nx, kp, rw, ic, fi, q1, q2, s2, ca, cj, co, won, lost, pf, cv, sc, pc, pp, po, vb, oa, ob, w⟩ := X
  have ea : x_am_setWeight s nx kp rw xa xb = x_am_change s nx kp rw 4 xa xb := am_eta
  obtain ⟨c1, c2, c3, c4⟩ := am_change (s := s) (k := 4) (rw := rw) (xa := xa) (xb := xb) q1 q2
  refine q_Spec_mono (c_setWeight (g := g) (d := d) w xa xb hd) (fun o h1 hQ => ?_)
  obtain ⟨e, x, y⟩ := hQ
  rw [ea] at e x
  rw [c1] at e
  rw [c2] at x
  exact ⟨e, ⟨hs, se, sf, s1, _, _, _, ic, fi, c3, c4, x⟩, y⟩
theorem w_setWeight {g : q_G} {h : q_H} {d : Nat} {s : ZS} {lc : Nat} {fl : Nat → Int32} {B : Nat} (X : z_X h s lc fl) (V : z_V B s) (hB : B < 2 ^ 30) (xa : Int32) (xb : Int32) (hd : 13 ≤ d) : q_Spec g mL_setWeight d 4 24 [.ref 100, .int xa, .int xb] h (z_opP h lc fl (B + 1) (fun n => n = s.1)) := by
  obtain ⟨fs, hr⟩ := X.obj
  obtain ⟨V1, V2, V3⟩ := V.weighs xa xb
  have ho : (∃ v, q_oI (x_apply 4 xa xb s).1 = .inl (some (.int v))) ∨ (q_oI (x_apply 4 xa xb s).1 = .inr "java/util/NoSuchElementException") ∨ (q_oI (x_apply 4 xa xb s).1 = .inr "java/lang/IllegalArgumentException") := by
    rcases V3 with ⟨v, ev⟩ | ⟨E9, hE, ev⟩
    · exact Or.inl ⟨v, by rw [ev]; rfl⟩
    · simp only [List.mem_cons, List.not_mem_nil, or_false] at hE
      rcases hE with rfl | rfl
      · exact Or.inr (Or.inl (by rw [ev]; rfl))
      · exact Or.inr (Or.inr (by rw [ev]; rfl))
  have sp := k_setWeight (g := g) (d := d - 1) X xa xb (by omega)
  refine q_Spec_mono (e_L_setWeight (dd := d - 1) hr ho (by omega) sp) (fun o h1 hQ => ?_)
  exact ⟨_, _, hQ.1, hQ.2.1, hQ.2.2, V1, V2⟩
theorem k_renew {g : q_G} {h : q_H} {d : Nat} {s : ZS} {lc : Nat} {fl : Nat → Int32} (X : z_X h s lc fl) (xa : Int32) (hd : 12 ≤ d) : q_Spec g mX10_renew d 4 24 [.ref (100), .int (xa)] h (q_chg (q_oI (x_apply 5 xa 0 s).1) (fun h1 => z_X h1 (x_apply 5 xa 0 s).2 lc fl ∧ q_zone h h1 100 115)) := by
  obtain ⟨hs, se, sf, s1, nx, kp, rw, ic, fi, q1, q2, s2, ca, cj, co, won, lost, pf, cv, sc, pc, pp, po, vb, oa, ob, w⟩ := X
  have ea : x_am_renew s nx kp rw xa = x_am_change s nx kp rw 5 xa 0 := am_eta
  obtain ⟨c1, c2, c3, c4⟩ := am_change (s := s) (k := 5) (rw := rw) (xa := xa) (xb := 0) q1 q2
  refine q_Spec_mono (c_renew (g := g) (d := d) w xa hd) (fun o h1 hQ => ?_)
  obtain ⟨e, x, y⟩ := hQ
  rw [ea] at e x
  rw [c1] at e
  rw [c2] at x
  exact ⟨e, ⟨hs, se, sf, s1, _, _, _, ic, fi, c3, c4, x⟩, y⟩
theorem w_renew {g : q_G} {h : q_H} {d : Nat} {s : ZS} {lc : Nat} {fl : Nat → Int32} {B : Nat} (X : z_X h s lc fl) (V : z_V B s) (hB : B < 2 ^ 30) (xa : Int32) (hd : 13 ≤ d) : q_Spec g mL_renew d 4 24 [.ref 100, .int xa] h (z_opP h lc fl (B + 1) (fun n => n = s.1)) := by
  obtain ⟨fs, hr⟩ := X.obj
  obtain ⟨V1, V2, V3⟩ := V.renews xa 0
  have ho : (∃ v, q_oI (x_apply 5 xa 0 s).1 = .inl (some (.int v))) ∨ (q_oI (x_apply 5 xa 0 s).1 = .inr "java/util/NoSuchElementException") := by
    rcases V3 with ⟨v, ev⟩ | ⟨E9, hE, ev⟩
    · exact Or.inl ⟨v, by rw [ev]; rfl⟩
    · simp only [List.mem_cons, List.not_mem_nil, or_false] at hE
      rcases hE with rfl
      · exact Or.inr (by rw [ev]; rfl)
  have sp := k_renew (g := g) (d := d - 1) X xa (by omega)
  refine q_Spec_mono (e_L_renew (dd := d - 1) hr ho (by omega) sp) (fun o h1 hQ => ?_)
  exact ⟨_, _, hQ.1, hQ.2.1, hQ.2.2, V1, V2⟩
theorem k_startDialogue {g : q_G} {h : q_H} {d : Nat} {s : ZS} {lc : Nat} {fl : Nat → Int32} (X : z_X h s lc fl) (xa : Int32) (hd : 12 ≤ d) : q_Spec g mX10_startDialogue d 4 24 [.ref (100), .int (xa)] h (q_chg (q_oI (x_apply 6 xa 0 s).1) (fun h1 => z_X h1 (x_apply 6 xa 0 s).2 lc fl ∧ q_zone h h1 100 115)) := by
  obtain ⟨hs, se, sf, s1, nx, kp, rw, ic, fi, q1, q2, s2, ca, cj, co, won, lost, pf, cv, sc, pc, pp, po, vb, oa, ob, w⟩ := X
  have ea : x_am_startDialogue s nx kp rw xa = x_am_change s nx kp rw 6 xa 0 := am_eta
  obtain ⟨c1, c2, c3, c4⟩ := am_change (s := s) (k := 6) (rw := rw) (xa := xa) (xb := 0) q1 q2
  refine q_Spec_mono (c_startDialogue (g := g) (d := d) w xa hd) (fun o h1 hQ => ?_)
  obtain ⟨e, x, y⟩ := hQ
  rw [ea] at e x
  rw [c1] at e
  rw [c2] at x
  exact ⟨e, ⟨hs, se, sf, s1, _, _, _, ic, fi, c3, c4, x⟩, y⟩
theorem w_startDialogue {g : q_G} {h : q_H} {d : Nat} {s : ZS} {lc : Nat} {fl : Nat → Int32} {B : Nat} (X : z_X h s lc fl) (V : z_V B s) (hB : B < 2 ^ 30) (xa : Int32) (hd : 13 ≤ d) : q_Spec g mL_startDialogue d 4 24 [.ref 100, .int xa] h (z_opP h lc fl (B + 1) (fun n => n = s.1)) := by
  obtain ⟨fs, hr⟩ := X.obj
  obtain ⟨V1, V2, V3⟩ := V.claims xa 0
  have ho : (∃ v, q_oI (x_apply 6 xa 0 s).1 = .inl (some (.int v))) ∨ (q_oI (x_apply 6 xa 0 s).1 = .inr "java/util/NoSuchElementException") ∨ (q_oI (x_apply 6 xa 0 s).1 = .inr "java/lang/IllegalStateException") := by
    rcases V3 with ⟨v, ev⟩ | ⟨E9, hE, ev⟩
    · exact Or.inl ⟨v, by rw [ev]; rfl⟩
    · simp only [List.mem_cons, List.not_mem_nil, or_false] at hE
      rcases hE with rfl | rfl
      · exact Or.inr (Or.inl (by rw [ev]; rfl))
      · exact Or.inr (Or.inr (by rw [ev]; rfl))
  have sp := k_startDialogue (g := g) (d := d - 1) X xa (by omega)
  refine q_Spec_mono (e_L_startDialogue (dd := d - 1) hr ho (by omega) sp) (fun o h1 hQ => ?_)
  exact ⟨_, _, hQ.1, hQ.2.1, hQ.2.2, V1, V2⟩
theorem k_move {g : q_G} {h : q_H} {d : Nat} {s : ZS} {lc : Nat} {fl : Nat → Int32} (X : z_X h s lc fl) (xa : Int32) (hd : 12 ≤ d) : q_Spec g mX10_move d 4 24 [.ref (100), .int (xa)] h (q_chg (q_oI (x_apply 7 xa 0 s).1) (fun h1 => z_X h1 (x_apply 7 xa 0 s).2 lc fl ∧ q_zone h h1 100 115)) := by
  obtain ⟨hs, se, sf, s1, nx, kp, rw, ic, fi, q1, q2, s2, ca, cj, co, won, lost, pf, cv, sc, pc, pp, po, vb, oa, ob, w⟩ := X
  have ea : x_am_move s nx kp rw xa = x_am_change s nx kp rw 7 xa 0 := am_eta
  obtain ⟨c1, c2, c3, c4⟩ := am_change (s := s) (k := 7) (rw := rw) (xa := xa) (xb := 0) q1 q2
  refine q_Spec_mono (c_move (g := g) (d := d) w xa hd) (fun o h1 hQ => ?_)
  obtain ⟨e, x, y⟩ := hQ
  rw [ea] at e x
  rw [c1] at e
  rw [c2] at x
  exact ⟨e, ⟨hs, se, sf, s1, _, _, _, ic, fi, c3, c4, x⟩, y⟩
theorem w_move {g : q_G} {h : q_H} {d : Nat} {s : ZS} {lc : Nat} {fl : Nat → Int32} {B : Nat} (X : z_X h s lc fl) (V : z_V B s) (hB : B < 2 ^ 30) (xa : Int32) (hd : 13 ≤ d) : q_Spec g mL_move d 4 24 [.ref 100, .int xa] h (z_opP h lc fl (B + 1) (fun n => n = s.1)) := by
  obtain ⟨fs, hr⟩ := X.obj
  obtain ⟨V1, V2, V3⟩ := V.replies xa 0
  have ho : (∃ v, q_oI (x_apply 7 xa 0 s).1 = .inl (some (.int v))) ∨ (q_oI (x_apply 7 xa 0 s).1 = .inr "java/util/NoSuchElementException") ∨ (q_oI (x_apply 7 xa 0 s).1 = .inr "java/lang/IllegalArgumentException") ∨ (q_oI (x_apply 7 xa 0 s).1 = .inr "java/lang/IllegalStateException") := by
    rcases V3 with ⟨v, ev⟩ | ⟨E9, hE, ev⟩
    · exact Or.inl ⟨v, by rw [ev]; rfl⟩
    · simp only [List.mem_cons, List.not_mem_nil, or_false] at hE
      rcases hE with rfl | rfl | rfl
      · exact Or.inr (Or.inl (by rw [ev]; rfl))
      · exact Or.inr (Or.inr (Or.inl (by rw [ev]; rfl)))
      · exact Or.inr (Or.inr (Or.inr (by rw [ev]; rfl)))
  have sp := k_move (g := g) (d := d - 1) X xa (by omega)
  refine q_Spec_mono (e_L_move (dd := d - 1) hr ho (by omega) sp) (fun o h1 hQ => ?_)
  exact ⟨_, _, hQ.1, hQ.2.1, hQ.2.2, V1, V2⟩
theorem k_takeBack {g : q_G} {h : q_H} {d : Nat} {s : ZS} {lc : Nat} {fl : Nat → Int32} (X : z_X h s lc fl)  (hd : 12 ≤ d) : q_Spec g mX10_takeBack d 4 24 [.ref (100)] h (q_chg (q_oI (x_apply 8 0 0 s).1) (fun h1 => z_X h1 (x_apply 8 0 0 s).2 lc fl ∧ q_zone h h1 100 115)) := by
  obtain ⟨hs, se, sf, s1, nx, kp, rw, ic, fi, q1, q2, s2, ca, cj, co, won, lost, pf, cv, sc, pc, pp, po, vb, oa, ob, w⟩ := X
  have ea : x_am_takeBack s nx kp rw  = x_am_change s nx kp rw 8 0 0 := am_eta
  obtain ⟨c1, c2, c3, c4⟩ := am_change (s := s) (k := 8) (rw := rw) (xa := 0) (xb := 0) q1 q2
  refine q_Spec_mono (c_takeBack (g := g) (d := d) w  hd) (fun o h1 hQ => ?_)
  obtain ⟨e, x, y⟩ := hQ
  rw [ea] at e x
  rw [c1] at e
  rw [c2] at x
  exact ⟨e, ⟨hs, se, sf, s1, _, _, _, ic, fi, c3, c4, x⟩, y⟩
theorem w_takeBack {g : q_G} {h : q_H} {d : Nat} {s : ZS} {lc : Nat} {fl : Nat → Int32} {B : Nat} (X : z_X h s lc fl) (V : z_V B s) (hB : B < 2 ^ 30)  (hd : 13 ≤ d) : q_Spec g mL_takeBack d 4 24 [.ref 100] h (z_opP h lc fl (B + 1) (fun n => n = s.1)) := by
  obtain ⟨fs, hr⟩ := X.obj
  obtain ⟨V1, V2, V3⟩ := V.takes 0 0
  have ho : (∃ v, q_oI (x_apply 8 0 0 s).1 = .inl (some (.int v))) ∨ (q_oI (x_apply 8 0 0 s).1 = .inr "java/util/NoSuchElementException") ∨ (q_oI (x_apply 8 0 0 s).1 = .inr "java/lang/IllegalStateException") := by
    rcases V3 with ⟨v, ev⟩ | ⟨E9, hE, ev⟩
    · exact Or.inl ⟨v, by rw [ev]; rfl⟩
    · simp only [List.mem_cons, List.not_mem_nil, or_false] at hE
      rcases hE with rfl | rfl
      · exact Or.inr (Or.inl (by rw [ev]; rfl))
      · exact Or.inr (Or.inr (by rw [ev]; rfl))
  have sp := k_takeBack (g := g) (d := d - 1) X  (by omega)
  refine q_Spec_mono (e_L_takeBack (dd := d - 1) hr ho (by omega) sp) (fun o h1 hQ => ?_)
  exact ⟨_, _, hQ.1, hQ.2.1, hQ.2.2, V1, V2⟩
theorem k_endDialogue {g : q_G} {h : q_H} {d : Nat} {s : ZS} {lc : Nat} {fl : Nat → Int32} (X : z_X h s lc fl) (hd : 12 ≤ d) : ∃ o : q_O, ((∃ v, (x_apply 9 0 0 s).1 = .inl v ∧ o = .inl (some (.int ((v.toUInt32 % 65536).toInt32)))) ∨ ∃ E, (x_apply 9 0 0 s).1 = .inr E ∧ o = .inr E) ∧ q_Spec g mX10_endDialogue d 4 24 [.ref (100)] h (q_chg o (fun h1 => z_X h1 (x_apply 9 0 0 s).2 lc fl ∧ q_zone h h1 100 115)) := by
  obtain ⟨hs, se, sf, s1, nx, kp, rw, ic, fi, q1, q2, s2, ca, cj, co, won, lost, pf, cv, sc, pc, pp, po, vb, oa, ob, w⟩ := X
  obtain ⟨c1, c2, c3, c4⟩ := am_change (s := s) (k := 9) (rw := rw) (xa := 0) (xb := 0) q1 q2
  have e9 := c_endDialogue (g := g) (d := d) w hd
  unfold x_am_endDialogue at e9
  generalize x_am_change s nx kp rw 9 0 0 = t at c1 c2 c3 c4 e9
  obtain ⟨o, t1, t2, t3, t4⟩ := t
  dsimp only at c1 c2 c3 c4
  rw [← c1, ← c2]
  cases o with
  | inl v => exact ⟨_, Or.inl ⟨v, rfl, rfl⟩, q_Spec_mono e9 (fun o h1 hQ => ⟨hQ.1, ⟨hs, se, sf, s1, _, _, _, ic, fi, c3, c4, hQ.2.1⟩, hQ.2.2⟩)⟩
  | inr E => exact ⟨_, Or.inr ⟨E, rfl, rfl⟩, q_Spec_mono e9 (fun o h1 hQ => ⟨hQ.1, ⟨hs, se, sf, s1, _, _, _, ic, fi, c3, c4, hQ.2.1⟩, hQ.2.2⟩)⟩
theorem w_endDialogue {g : q_G} {h : q_H} {d : Nat} {s : ZS} {lc : Nat} {fl : Nat → Int32} {B : Nat} (X : z_X h s lc fl) (V : z_V B s) (hB : B < 2 ^ 30)  (hd : 13 ≤ d) : q_Spec g mL_endDialogue d 4 24 [.ref 100] h (z_opP h lc fl (B + 1) (fun n => n = s.1)) := by
  obtain ⟨fs, hr⟩ := X.obj
  obtain ⟨V1, V2, V3⟩ := V.closes 0 0
  obtain ⟨o, ho9, sp⟩ := k_endDialogue (g := g) (d := d - 1) X (by omega)
  have ho : (∃ v, o = .inl (some (.int v))) ∨ (o = .inr "java/util/NoSuchElementException") := by
    rcases ho9 with ⟨v, e1, e2⟩ | ⟨E, e1, e2⟩
    · exact Or.inl ⟨_, e2⟩
    · rcases V3 with ⟨v, ev⟩ | ⟨E9, hE, ev⟩
      · rw [ev] at e1
        cases e1
      · simp only [List.mem_cons, List.not_mem_nil, or_false] at hE
        subst hE
        rw [ev] at e1
        cases e1
        exact Or.inr e2
  refine q_Spec_mono (e_L_endDialogue (dd := d - 1) hr ho (by omega) sp) (fun o h1 hQ => ?_)
  exact ⟨_, _, hQ.1, hQ.2.1, hQ.2.2, V1, V2⟩
theorem k_pass {g : q_G} {h : q_H} {d : Nat} {s : ZS} {lc : Nat} {fl : Nat → Int32} (X : z_X h s lc fl) (xa : Int32) (hd : 12 ≤ d) : q_Spec g mX10_pass d 4 24 [.ref (100), .int (xa)] h (q_chg (q_oI (x_apply 10 xa 0 s).1) (fun h1 => z_X h1 (x_apply 10 xa 0 s).2 lc fl ∧ q_zone h h1 100 115)) := by
  obtain ⟨hs, se, sf, s1, nx, kp, rw, ic, fi, q1, q2, s2, ca, cj, co, won, lost, pf, cv, sc, pc, pp, po, vb, oa, ob, w⟩ := X
  have ea : x_am_pass s nx kp rw xa = x_am_change s nx kp rw 10 xa 0 := am_eta
  obtain ⟨c1, c2, c3, c4⟩ := am_change (s := s) (k := 10) (rw := rw) (xa := xa) (xb := 0) q1 q2
  refine q_Spec_mono (c_pass (g := g) (d := d) w xa hd) (fun o h1 hQ => ?_)
  obtain ⟨e, x, y⟩ := hQ
  rw [ea] at e x
  rw [c1] at e
  rw [c2] at x
  exact ⟨e, ⟨hs, se, sf, s1, _, _, _, ic, fi, c3, c4, x⟩, y⟩
theorem w_pass {g : q_G} {h : q_H} {d : Nat} {s : ZS} {lc : Nat} {fl : Nat → Int32} {B : Nat} (X : z_X h s lc fl) (V : z_V B s) (hB : B < 2 ^ 30) (xa : Int32) (hd : 13 ≤ d) : q_Spec g mL_pass d 4 24 [.ref 100, .int xa] h (z_opP h lc fl (B + 1) (fun n => n = s.1)) := by
  obtain ⟨fs, hr⟩ := X.obj
  obtain ⟨V1, V2, V3⟩ := V.passes xa 0
  have ho : (∃ v, q_oI (x_apply 10 xa 0 s).1 = .inl (some (.int v))) ∨ (q_oI (x_apply 10 xa 0 s).1 = .inr "java/lang/IllegalArgumentException") := by
    rcases V3 with ⟨v, ev⟩ | ⟨E9, hE, ev⟩
    · exact Or.inl ⟨v, by rw [ev]; rfl⟩
    · simp only [List.mem_cons, List.not_mem_nil, or_false] at hE
      rcases hE with rfl
      · exact Or.inr (by rw [ev]; rfl)
  have sp := k_pass (g := g) (d := d - 1) X xa (by omega)
  refine q_Spec_mono (e_L_pass (dd := d - 1) hr ho (by omega) sp) (fun o h1 hQ => ?_)
  exact ⟨_, _, hQ.1, hQ.2.1, hQ.2.2, V1, V2⟩
theorem k_argumentCount {g : q_G} {h : q_H} {d : Nat} {s : ZS} {lc : Nat} {fl : Nat → Int32} {B : Nat} (X : z_X h s lc fl) (V : z_V B s)  (hd : 0 ≤ d) : q_Spec g mX10_argumentCount d 0 0 [.ref (100)] h (q_chg (.inl (some (.int (nI s.1)))) (fun h1 => z_X h1 s lc fl ∧ q_zone h h1 100 115)) := by
  obtain ⟨hs, se, sf, s1, nx, kp, rw, ic, fi, q1, q2, s2, ca, cj, co, won, lost, pf, cv, sc, pc, pp, po, vb, oa, ob, w⟩ := X
  refine q_Spec_mono (c_argumentCount (g := g) (d := d) w  hd) (fun o h1 hQ => ?_)
  obtain ⟨e, x, y⟩ := hQ
  exact ⟨e, ⟨hs, se, sf, s1, nx, kp, rw, ic, fi, q1, q2, x⟩, y⟩
theorem k_idAt {g : q_G} {h : q_H} {d : Nat} {s : ZS} {lc : Nat} {fl : Nat → Int32} {B : Nat} (X : z_X h s lc fl) (V : z_V B s) {k : Nat} (hk : k < s.1) (hd : 7 ≤ d) : q_Spec g mX10_idAt d 1 6 [.ref (100), .int (nI k)] h (q_chg (.inl (some (.int (s.2.1 k)))) (fun h1 => z_X h1 s lc fl ∧ q_zone h h1 100 115)) := by
  obtain ⟨hs, se, sf, s1, nx, kp, rw, ic, fi, q1, q2, s2, ca, cj, co, won, lost, pf, cv, sc, pc, pp, po, vb, oa, ob, w⟩ := X
  refine q_Spec_mono (c_idAt (g := g) (d := d) w (nI k) hd) (fun o h1 hQ => ?_)
  obtain ⟨e, x, y⟩ := hQ
  rw [u_idAt hk V.1.1] at e
  exact ⟨e, ⟨hs, se, sf, s1, nx, kp, rw, ic, fi, q1, q2, x⟩, y⟩
theorem k_weightOf {g : q_G} {h : q_H} {d : Nat} {s : ZS} {lc : Nat} {fl : Nat → Int32} {B : Nat} (X : z_X h s lc fl) (V : z_V B s) {v : Nat} (hv : v < s.1) (hd : 8 ≤ d) : q_Spec g mX10_weightOf d 1 6 [.ref (100), .int (s.2.1 v)] h (q_chg (.inl (some (.int (s.2.2.1 v)))) (fun h1 => z_X h1 s lc fl ∧ q_zone h h1 100 115)) := by
  obtain ⟨hs, se, sf, s1, nx, kp, rw, ic, fi, q1, q2, s2, ca, cj, co, won, lost, pf, cv, sc, pc, pp, po, vb, oa, ob, w⟩ := X
  refine q_Spec_mono (c_weightOf (g := g) (d := d) w (s.2.1 v) hd) (fun o h1 hQ => ?_)
  obtain ⟨e, x, y⟩ := hQ
  rw [u_wt V hv] at e
  exact ⟨e, ⟨hs, se, sf, s1, nx, kp, rw, ic, fi, q1, q2, x⟩, y⟩
theorem k_ageOf {g : q_G} {h : q_H} {d : Nat} {s : ZS} {lc : Nat} {fl : Nat → Int32} {B : Nat} (X : z_X h s lc fl) (V : z_V B s) {v : Nat} (hv : v < s.1) (hd : 8 ≤ d) : q_Spec g mX10_ageOf d 1 6 [.ref (100), .int (s.2.1 v)] h (q_chg (.inl (some (.int (s.2.2.2.1 v)))) (fun h1 => z_X h1 s lc fl ∧ q_zone h h1 100 115)) := by
  obtain ⟨hs, se, sf, s1, nx, kp, rw, ic, fi, q1, q2, s2, ca, cj, co, won, lost, pf, cv, sc, pc, pp, po, vb, oa, ob, w⟩ := X
  refine q_Spec_mono (c_ageOf (g := g) (d := d) w (s.2.1 v) hd) (fun o h1 hQ => ?_)
  obtain ⟨e, x, y⟩ := hQ
  rw [u_ag V hv] at e
  exact ⟨e, ⟨hs, se, sf, s1, nx, kp, rw, ic, fi, q1, q2, x⟩, y⟩
theorem k_strengthOf {g : q_G} {h : q_H} {d : Nat} {s : ZS} {lc : Nat} {fl : Nat → Int32} {B : Nat} (X : z_X h s lc fl) (V : z_V B s) {v : Nat} (hv : v < s.1) (hd : 8 ≤ d) : q_Spec g mX10_strengthOf d 1 6 [.ref (100), .int (s.2.1 v)] h (q_chg (.inl (some (.int (zStr s v)))) (fun h1 => z_X h1 s lc fl ∧ q_zone h h1 100 115)) := by
  obtain ⟨hs, se, sf, s1, nx, kp, rw, ic, fi, q1, q2, s2, ca, cj, co, won, lost, pf, cv, sc, pc, pp, po, vb, oa, ob, w⟩ := X
  refine q_Spec_mono (c_strengthOf (g := g) (d := d) w (s.2.1 v) hd) (fun o h1 hQ => ?_)
  obtain ⟨e, x, y⟩ := hQ
  rw [u_str V hv] at e
  exact ⟨e, ⟨hs, se, sf, s1, nx, kp, rw, ic, fi, q1, q2, x⟩, y⟩
theorem k_attackCount {g : q_G} {h : q_H} {d : Nat} {s : ZS} {lc : Nat} {fl : Nat → Int32} {B : Nat} (X : z_X h s lc fl) (V : z_V B s)  (hd : 2 ≤ d) : q_Spec g mX10_attackCount d 0 0 [.ref (100)] h (q_chg (.inl (some (.int (x_st_countAttacks s.1 s.2.2.2.2.1)))) (fun h1 => z_X h1 s lc fl ∧ q_zone h h1 100 115)) := by
  obtain ⟨hs, se, sf, s1, nx, kp, rw, ic, fi, q1, q2, s2, ca, cj, co, won, lost, pf, cv, sc, pc, pp, po, vb, oa, ob, w⟩ := X
  refine q_Spec_mono (c_attackCount (g := g) (d := d) w  hd) (fun o h1 hQ => ?_)
  obtain ⟨e, x, y⟩ := hQ
  exact ⟨e, ⟨hs, se, sf, s1, nx, kp, rw, ic, fi, q1, q2, x⟩, y⟩
theorem k_hasAttack {g : q_G} {h : q_H} {d : Nat} {s : ZS} {lc : Nat} {fl : Nat → Int32} {B : Nat} (X : z_X h s lc fl) (V : z_V B s) {v : Nat} (hv : v < s.1) {u : Nat} (hu : u < s.1) (hd : 8 ≤ d) : q_Spec g mX10_hasAttack d 2 12 [.ref (100), .int (s.2.1 v), .int (s.2.1 u)] h (q_chg (.inl (some (.int (z_b (z_has (s.2.2.2.2.1 v) u))))) (fun h1 => z_X h1 s lc fl ∧ q_zone h h1 100 115)) := by
  obtain ⟨hs, se, sf, s1, nx, kp, rw, ic, fi, q1, q2, s2, ca, cj, co, won, lost, pf, cv, sc, pc, pp, po, vb, oa, ob, w⟩ := X
  refine q_Spec_mono (c_hasAttack (g := g) (d := d) w (s.2.1 v) (s.2.1 u) hd) (fun o h1 hQ => ?_)
  obtain ⟨e, x, y⟩ := hQ
  rw [u_has V hv hu] at e
  exact ⟨e, ⟨hs, se, sf, s1, nx, kp, rw, ic, fi, q1, q2, x⟩, y⟩
theorem k_isSuccessful {g : q_G} {h : q_H} {d : Nat} {s : ZS} {lc : Nat} {fl : Nat → Int32} {B : Nat} (X : z_X h s lc fl) (V : z_V B s) {v : Nat} (hv : v < s.1) {u : Nat} (hu : u < s.1) (hd : 8 ≤ d) : q_Spec g mX10_isSuccessful d 3 18 [.ref (100), .int (s.2.1 v), .int (s.2.1 u)] h (q_chg (q_oB (if z_has (s.2.2.2.2.1 v) u then .inl (z_has (s.2.2.2.2.2.1 u) v) else .inr "java/util/NoSuchElementException")) (fun h1 => z_X h1 s lc fl ∧ q_zone h h1 100 115)) := by
  obtain ⟨hs, se, sf, s1, nx, kp, rw, ic, fi, q1, q2, s2, ca, cj, co, won, lost, pf, cv, sc, pc, pp, po, vb, oa, ob, w⟩ := X
  refine q_Spec_mono (c_isSuccessful (g := g) (d := d) w (s.2.1 v) (s.2.1 u) hd) (fun o h1 hQ => ?_)
  obtain ⟨e, x, y⟩ := hQ
  rw [u_suc V hv hu] at e
  exact ⟨e, ⟨hs, se, sf, s1, nx, kp, rw, ic, fi, q1, q2, x⟩, y⟩
theorem k_successfulCount {g : q_G} {h : q_H} {d : Nat} {s : ZS} {lc : Nat} {fl : Nat → Int32} {B : Nat} (X : z_X h s lc fl) (V : z_V B s)  (hd : 1 ≤ d) : q_Spec g mX10_successfulCount d 0 0 [.ref (100)] h (q_chg (.inl (some (.int (x_am_successfulCount s.1 s.2.2.2.2.2.1)))) (fun h1 => z_X h1 s lc fl ∧ q_zone h h1 100 115)) := by
  obtain ⟨hs, se, sf, s1, nx, kp, rw, ic, fi, q1, q2, s2, ca, cj, co, won, lost, pf, cv, sc, pc, pp, po, vb, oa, ob, w⟩ := X
  refine q_Spec_mono (c_successfulCount (g := g) (d := d) w  hd) (fun o h1 hQ => ?_)
  obtain ⟨e, x, y⟩ := hQ
  exact ⟨e, ⟨hs, se, sf, s1, nx, kp, rw, ic, fi, q1, q2, x⟩, y⟩
theorem k_attackerCount {g : q_G} {h : q_H} {d : Nat} {s : ZS} {lc : Nat} {fl : Nat → Int32} {B : Nat} (X : z_X h s lc fl) (V : z_V B s) {v : Nat} (hv : v < s.1) (hd : 8 ≤ d) : q_Spec g mX10_attackerCount d 1 6 [.ref (100), .int (s.2.1 v)] h (q_chg (.inl (some (.int (z_bc (s.2.2.2.2.2.1 v))))) (fun h1 => z_X h1 s lc fl ∧ q_zone h h1 100 115)) := by
  obtain ⟨hs, se, sf, s1, nx, kp, rw, ic, fi, q1, q2, s2, ca, cj, co, won, lost, pf, cv, sc, pc, pp, po, vb, oa, ob, w⟩ := X
  refine q_Spec_mono (c_attackerCount (g := g) (d := d) w (s.2.1 v) hd) (fun o h1 hQ => ?_)
  obtain ⟨e, x, y⟩ := hQ
  rw [u_atc V hv] at e
  exact ⟨e, ⟨hs, se, sf, s1, nx, kp, rw, ic, fi, q1, q2, x⟩, y⟩
theorem k_attackerAt {g : q_G} {h : q_H} {d : Nat} {s : ZS} {lc : Nat} {fl : Nat → Int32} {B : Nat} (X : z_X h s lc fl) (V : z_V B s) {v : Nat} (hv : v < s.1) {u : Nat} (hu : u < s.1) (hb : z_bi (s.2.2.2.2.2.1 v) u = true) (hd : 8 ≤ d) : q_Spec g mX10_attackerAt d 2 12 [.ref (100), .int (s.2.1 v), .int (nI (z_cn (s.2.2.2.2.2.1 v) u))] h (q_chg (.inl (some (.int (s.2.1 u)))) (fun h1 => z_X h1 s lc fl ∧ q_zone h h1 100 115)) := by
  obtain ⟨hs, se, sf, s1, nx, kp, rw, ic, fi, q1, q2, s2, ca, cj, co, won, lost, pf, cv, sc, pc, pp, po, vb, oa, ob, w⟩ := X
  refine q_Spec_mono (c_attackerAt (g := g) (d := d) w (s.2.1 v) (nI (z_cn (s.2.2.2.2.2.1 v) u)) hd) (fun o h1 hQ => ?_)
  obtain ⟨e, x, y⟩ := hQ
  rw [u_atA' V hv hu hb] at e
  exact ⟨e, ⟨hs, se, sf, s1, nx, kp, rw, ic, fi, q1, q2, x⟩, y⟩
theorem k_attackerAtN {g : q_G} {h : q_H} {d : Nat} {s : ZS} {lc : Nat} {fl : Nat → Int32} {B : Nat} (X : z_X h s lc fl) (V : z_V B s) {v : Nat} (hv : v < s.1) (hd : 8 ≤ d) : q_Spec g mX10_attackerAt d 2 12 [.ref (100), .int (s.2.1 v), .int (nI (z_cn (s.2.2.2.2.2.1 v) s.1))] h (q_chg (.inr "java/lang/IndexOutOfBoundsException") (fun h1 => z_X h1 s lc fl ∧ q_zone h h1 100 115)) := by
  obtain ⟨hs, se, sf, s1, nx, kp, rw, ic, fi, q1, q2, s2, ca, cj, co, won, lost, pf, cv, sc, pc, pp, po, vb, oa, ob, w⟩ := X
  refine q_Spec_mono (c_attackerAt (g := g) (d := d) w (s.2.1 v) (nI (z_cn (s.2.2.2.2.2.1 v) s.1)) hd) (fun o h1 hQ => ?_)
  obtain ⟨e, x, y⟩ := hQ
  rw [u_atN' V hv] at e
  exact ⟨e, ⟨hs, se, sf, s1, nx, kp, rw, ic, fi, q1, q2, x⟩, y⟩
theorem k_status {g : q_G} {h : q_H} {d : Nat} {s : ZS} {lc : Nat} {fl : Nat → Int32} {B : Nat} (X : z_X h s lc fl) (V : z_V B s) {v : Nat} (hv : v < s.1) (hd : 8 ≤ d) : q_Spec g mX10_status d 1 6 [.ref (100), .int (s.2.1 v)] h (q_chg (.inl (some (.int (zLt s v)))) (fun h1 => z_X h1 s lc fl ∧ q_zone h h1 100 115)) := by
  obtain ⟨hs, se, sf, s1, nx, kp, rw, ic, fi, q1, q2, s2, ca, cj, co, won, lost, pf, cv, sc, pc, pp, po, vb, oa, ob, w⟩ := X
  refine q_Spec_mono (c_status (g := g) (d := d) w (s.2.1 v) hd) (fun o h1 hQ => ?_)
  obtain ⟨e, x, y⟩ := hQ
  rw [u_status V hv] at e
  exact ⟨e, ⟨hs, se, sf, s1, nx, kp, rw, ic, fi, q1, q2, x⟩, y⟩
theorem k_roundOf {g : q_G} {h : q_H} {d : Nat} {s : ZS} {lc : Nat} {fl : Nat → Int32} {B : Nat} (X : z_X h s lc fl) (V : z_V B s) {v : Nat} (hv : v < s.1) (hd : 8 ≤ d) : q_Spec g mX10_roundOf d 2 12 [.ref (100), .int (s.2.1 v)] h (q_chg (q_oI (if zLt s v = 117 then .inr "java/util/NoSuchElementException" else .inl (zRd s v))) (fun h1 => z_X h1 s lc fl ∧ q_zone h h1 100 115)) := by
  obtain ⟨hs, se, sf, s1, nx, kp, rw, ic, fi, q1, q2, s2, ca, cj, co, won, lost, pf, cv, sc, pc, pp, po, vb, oa, ob, w⟩ := X
  refine q_Spec_mono (c_roundOf (g := g) (d := d) w (s.2.1 v) hd) (fun o h1 hQ => ?_)
  obtain ⟨e, x, y⟩ := hQ
  rw [u_roundOf V hv] at e
  exact ⟨e, ⟨hs, se, sf, s1, nx, kp, rw, ic, fi, q1, q2, x⟩, y⟩
theorem k_isAcceptedByGame {g : q_G} {h : q_H} {d : Nat} {s : ZS} {lc : Nat} {fl : Nat → Int32} {B : Nat} (X : z_X h s lc fl) (V : z_V B s) {v : Nat} (hv : v < s.1) (hd : 20 ≤ d) : q_Spec g mX10_isAcceptedByGame d 1 6 [.ref (100), .int (s.2.1 v)] h (q_chg (.inl (some (.int (z_b (z_bi (zAc s) v))))) (fun h1 => z_X h1 s lc fl ∧ q_zone h h1 100 115)) := by
  obtain ⟨hs, se, sf, s1, nx, kp, rw, ic, fi, q1, q2, s2, ca, cj, co, won, lost, pf, cv, sc, pc, pp, po, vb, oa, ob, w⟩ := X
  refine q_Spec_mono (c_isAcceptedByGame (g := g) (d := d) w (s.2.1 v) hd) (fun o h1 hQ => ?_)
  obtain ⟨e, x, y⟩ := hQ
  rw [u_game V hv] at e
  exact ⟨e, ⟨hs, se, sf, s1, nx, kp, rw, ic, fi, q1, q2, x⟩, y⟩
theorem k_canOpponentWin {g : q_G} {h : q_H} {d : Nat} {s : ZS} {lc : Nat} {fl : Nat → Int32} {B : Nat} (X : z_X h s lc fl) (V : z_V B s) {v : Nat} (hv : v < s.1) (hd : 21 ≤ d) : q_Spec g mX10_canOpponentWin d 1 6 [.ref (100), .int (s.2.1 v)] h (q_chg (.inl (some (.int (z_b (!z_bi (zAc s) v))))) (fun h1 => z_X h1 s lc fl ∧ q_zone h h1 100 115)) := by
  obtain ⟨hs, se, sf, s1, nx, kp, rw, ic, fi, q1, q2, s2, ca, cj, co, won, lost, pf, cv, sc, pc, pp, po, vb, oa, ob, w⟩ := X
  refine q_Spec_mono (c_canOpponentWin (g := g) (d := d) w (s.2.1 v) hd) (fun o h1 hQ => ?_)
  obtain ⟨e, x, y⟩ := hQ
  rw [u_opp V hv] at e
  exact ⟨e, ⟨hs, se, sf, s1, nx, kp, rw, ic, fi, q1, q2, x⟩, y⟩
theorem k_acceptedCount {g : q_G} {h : q_H} {d : Nat} {s : ZS} {lc : Nat} {fl : Nat → Int32} {B : Nat} (X : z_X h s lc fl) (V : z_V B s)  (hd : 4 ≤ d) : q_Spec g mX10_acceptedCount d 0 0 [.ref (100)] h (q_chg (.inl (some (.int (z_bc (zAc s))))) (fun h1 => z_X h1 s lc fl ∧ q_zone h h1 100 115)) := by
  obtain ⟨hs, se, sf, s1, nx, kp, rw, ic, fi, q1, q2, s2, ca, cj, co, won, lost, pf, cv, sc, pc, pp, po, vb, oa, ob, w⟩ := X
  refine q_Spec_mono (c_acceptedCount (g := g) (d := d) w  hd) (fun o h1 hQ => ?_)
  obtain ⟨e, x, y⟩ := hQ
  rw [u_accC V] at e
  exact ⟨e, ⟨hs, se, sf, s1, nx, kp, rw, ic, fi, q1, q2, x⟩, y⟩
theorem k_undecidedCount {g : q_G} {h : q_H} {d : Nat} {s : ZS} {lc : Nat} {fl : Nat → Int32} {B : Nat} (X : z_X h s lc fl) (V : z_V B s)  (hd : 4 ≤ d) : q_Spec g mX10_undecidedCount d 0 0 [.ref (100)] h (q_chg (.inl (some (.int (nI s.1 - z_bc (zAc s ||| zRj s))))) (fun h1 => z_X h1 s lc fl ∧ q_zone h h1 100 115)) := by
  obtain ⟨hs, se, sf, s1, nx, kp, rw, ic, fi, q1, q2, s2, ca, cj, co, won, lost, pf, cv, sc, pc, pp, po, vb, oa, ob, w⟩ := X
  refine q_Spec_mono (c_undecidedCount (g := g) (d := d) w  hd) (fun o h1 hQ => ?_)
  obtain ⟨e, x, y⟩ := hQ
  rw [u_undC V] at e
  exact ⟨e, ⟨hs, se, sf, s1, nx, kp, rw, ic, fi, q1, q2, x⟩, y⟩
theorem k_stableCount {g : q_G} {h : q_H} {d : Nat} {s : ZS} {lc : Nat} {fl : Nat → Int32} {B : Nat} (X : z_X h s lc fl) (V : z_V B s)  (hd : 4 ≤ d) : q_Spec g mX10_stableCount d 0 0 [.ref (100)] h (q_chg (.inl (some (.int (x_ex_countStable s.1 s.2.2.2.2.2.1)))) (fun h1 => z_X h1 s lc fl ∧ q_zone h h1 100 115)) := by
  obtain ⟨hs, se, sf, s1, nx, kp, rw, ic, fi, q1, q2, s2, ca, cj, co, won, lost, pf, cv, sc, pc, pp, po, vb, oa, ob, w⟩ := X
  refine q_Spec_mono (c_stableCount (g := g) (d := d) w  hd) (fun o h1 hQ => ?_)
  obtain ⟨e, x, y⟩ := hQ
  exact ⟨e, ⟨hs, se, sf, s1, nx, kp, rw, ic, fi, q1, q2, x⟩, y⟩
theorem k_stableCountByLabels {g : q_G} {h : q_H} {d : Nat} {s : ZS} {lc : Nat} {fl : Nat → Int32} {B : Nat} (X : z_X h s lc fl) (V : z_V B s)  (hd : 23 ≤ d) : q_Spec g mX10_stableCountByLabels d 0 0 [.ref (100)] h (q_chg (.inl (some (.int (x_ex_countStableByLabels s.1 s.2.2.2.2.2.1)))) (fun h1 => z_X h1 s lc fl ∧ q_zone h h1 100 115)) := by
  obtain ⟨hs, se, sf, s1, nx, kp, rw, ic, fi, q1, q2, s2, ca, cj, co, won, lost, pf, cv, sc, pc, pp, po, vb, oa, ob, w⟩ := X
  refine q_Spec_mono (c_stableCountByLabels (g := g) (d := d) w  hd) (fun o h1 hQ => ?_)
  obtain ⟨e, x, y⟩ := hQ
  exact ⟨e, ⟨hs, se, sf, s1, nx, kp, rw, ic, fi, q1, q2, x⟩, y⟩
theorem k_preferredCount {g : q_G} {h : q_H} {d : Nat} {s : ZS} {lc : Nat} {fl : Nat → Int32} {B : Nat} (X : z_X h s lc fl) (V : z_V B s)  (hd : 4 ≤ d) : q_Spec g mX10_preferredCount d 0 0 [.ref (100)] h (q_chg (.inl (some (.int (zPW s 0)))) (fun h1 => z_X h1 s lc fl ∧ q_zone h h1 100 115)) := by
  obtain ⟨hs, se, sf, s1, nx, kp, rw, ic, fi, q1, q2, s2, ca, cj, co, won, lost, pf, cv, sc, pc, pp, po, vb, oa, ob, w⟩ := X
  refine q_Spec_mono (c_preferredCount (g := g) (d := d) w  hd) (fun o h1 hQ => ?_)
  obtain ⟨e, x, y⟩ := hQ
  rw [u_prefC V] at e
  exact ⟨e, ⟨hs, se, sf, s1, nx, kp, rw, ic, fi, q1, q2, x⟩, y⟩
theorem k_greatestAdmissible {g : q_G} {h : q_H} {d : Nat} {s : ZS} {lc : Nat} {fl : Nat → Int32} {B : Nat} (X : z_X h s lc fl) (V : z_V B s)  (hd : 4 ≤ d) : q_Spec g mX10_greatestAdmissible d 0 0 [.ref (100)] h (q_chg (.inl (some (.int (x_ex_sizeOfGreatestAdmissible s.1 s.2.2.2.2.2.1)))) (fun h1 => z_X h1 s lc fl ∧ q_zone h h1 100 115)) := by
  obtain ⟨hs, se, sf, s1, nx, kp, rw, ic, fi, q1, q2, s2, ca, cj, co, won, lost, pf, cv, sc, pc, pp, po, vb, oa, ob, w⟩ := X
  refine q_Spec_mono (c_greatestAdmissible (g := g) (d := d) w  hd) (fun o h1 hQ => ?_)
  obtain ⟨e, x, y⟩ := hQ
  exact ⟨e, ⟨hs, se, sf, s1, nx, kp, rw, ic, fi, q1, q2, x⟩, y⟩
theorem k_isCredible {g : q_G} {h : q_H} {d : Nat} {s : ZS} {lc : Nat} {fl : Nat → Int32} {B : Nat} (X : z_X h s lc fl) (V : z_V B s) {v : Nat} (hv : v < s.1) (hd : 9 ≤ d) : q_Spec g mX10_isCredible d 2 12 [.ref (100), .int (s.2.1 v)] h (q_chg (.inl (some (.int (z_b (decide (¬ zPW s (zBt v ||| zBt v) ≤ 0)))))) (fun h1 => z_X h1 s lc fl ∧ q_zone h h1 100 115)) := by
  obtain ⟨hs, se, sf, s1, nx, kp, rw, ic, fi, q1, q2, s2, ca, cj, co, won, lost, pf, cv, sc, pc, pp, po, vb, oa, ob, w⟩ := X
  refine q_Spec_mono (c_isCredible (g := g) (d := d) w (s.2.1 v) hd) (fun o h1 hQ => ?_)
  obtain ⟨e, x, y⟩ := hQ
  rw [u_cred V hv] at e
  exact ⟨e, ⟨hs, se, sf, s1, nx, kp, rw, ic, fi, q1, q2, x⟩, y⟩
theorem k_isCertain {g : q_G} {h : q_H} {d : Nat} {s : ZS} {lc : Nat} {fl : Nat → Int32} {B : Nat} (X : z_X h s lc fl) (V : z_V B s) {v : Nat} (hv : v < s.1) (hd : 8 ≤ d) : q_Spec g mX10_isCertain d 1 6 [.ref (100), .int (s.2.1 v)] h (q_chg (.inl (some (.int (z_b (decide (zPW s (zBt v) = zPW s 0)))))) (fun h1 => z_X h1 s lc fl ∧ q_zone h h1 100 115)) := by
  obtain ⟨hs, se, sf, s1, nx, kp, rw, ic, fi, q1, q2, s2, ca, cj, co, won, lost, pf, cv, sc, pc, pp, po, vb, oa, ob, w⟩ := X
  refine q_Spec_mono (c_isCertain (g := g) (d := d) w (s.2.1 v) hd) (fun o h1 hQ => ?_)
  obtain ⟨e, x, y⟩ := hQ
  rw [u_cert V hv] at e
  exact ⟨e, ⟨hs, se, sf, s1, nx, kp, rw, ic, fi, q1, q2, x⟩, y⟩
theorem k_canStandTogether {g : q_G} {h : q_H} {d : Nat} {s : ZS} {lc : Nat} {fl : Nat → Int32} {B : Nat} (X : z_X h s lc fl) (V : z_V B s) {v : Nat} (hv : v < s.1) {u : Nat} (hu : u < s.1) (hd : 8 ≤ d) : q_Spec g mX10_canStandTogether d 2 12 [.ref (100), .int (s.2.1 v), .int (s.2.1 u)] h (q_chg (.inl (some (.int (z_b (decide (¬ zPW s (zBt v ||| zBt u) ≤ 0)))))) (fun h1 => z_X h1 s lc fl ∧ q_zone h h1 100 115)) := by
  obtain ⟨hs, se, sf, s1, nx, kp, rw, ic, fi, q1, q2, s2, ca, cj, co, won, lost, pf, cv, sc, pc, pp, po, vb, oa, ob, w⟩ := X
  refine q_Spec_mono (c_canStandTogether (g := g) (d := d) w (s.2.1 v) (s.2.1 u) hd) (fun o h1 hQ => ?_)
  obtain ⟨e, x, y⟩ := hQ
  rw [u_tog V hv hu] at e
  exact ⟨e, ⟨hs, se, sf, s1, nx, kp, rw, ic, fi, q1, q2, x⟩, y⟩
theorem k_hasCycle {g : q_G} {h : q_H} {d : Nat} {s : ZS} {lc : Nat} {fl : Nat → Int32} {B : Nat} (X : z_X h s lc fl) (V : z_V B s)  (hd : 2 ≤ d) : q_Spec g mX10_hasCycle d 0 0 [.ref (100)] h (q_chg (.inl (some (.int (z_b (x_cy_remain s.1 s.2.2.2.2.2.1))))) (fun h1 => z_X h1 s lc fl ∧ q_zone h h1 100 115)) := by
  obtain ⟨hs, se, sf, s1, nx, kp, rw, ic, fi, q1, q2, s2, ca, cj, co, won, lost, pf, cv, sc, pc, pp, po, vb, oa, ob, w⟩ := X
  refine q_Spec_mono (c_hasCycle (g := g) (d := d) w  hd) (fun o h1 hQ => ?_)
  obtain ⟨e, x, y⟩ := hQ
  exact ⟨e, ⟨hs, se, sf, s1, nx, kp, rw, ic, fi, q1, q2, x⟩, y⟩
theorem k_hasCycleBySearch {g : q_G} {h : q_H} {d : Nat} {s : ZS} {lc : Nat} {fl : Nat → Int32} {B : Nat} (X : z_X h s lc fl) (V : z_V B s)  (hd : 13 ≤ d) : q_Spec g mX10_hasCycleBySearch d 0 0 [.ref (100)] h (q_chg (.inl (some (.int (z_b (x_cy_areFound s.1 s.2.2.2.2.2.1))))) (fun h1 => z_X h1 s lc fl ∧ q_zone h h1 100 115)) := by
  obtain ⟨hs, se, sf, s1, nx, kp, rw, ic, fi, q1, q2, s2, ca, cj, co, won, lost, pf, cv, sc, pc, pp, po, vb, oa, ob, w⟩ := X
  refine q_Spec_mono (c_hasCycleBySearch (g := g) (d := d) w  hd) (fun o h1 hQ => ?_)
  obtain ⟨e, x, y⟩ := hQ
  exact ⟨e, ⟨hs, se, sf, s1, nx, kp, rw, ic, fi, q1, q2, x⟩, y⟩
theorem k_statusAfter {g : q_G} {h : q_H} {d : Nat} {s : ZS} {lc : Nat} {fl : Nat → Int32} {B : Nat} (X : z_X h s lc fl) (V : z_V B s) {v : Nat} (hv : v < s.1) (hd : 8 ≤ d) : q_Spec g mX10_statusAfter d 2 12 [.ref (100), .int (s.2.1 v), .int 0] h (q_chg (.inl (some (.int (zLt s v)))) (fun h1 => z_X h1 s lc fl ∧ q_zone h h1 100 115)) := by
  obtain ⟨hs, se, sf, s1, nx, kp, rw, ic, fi, q1, q2, s2, ca, cj, co, won, lost, pf, cv, sc, pc, pp, po, vb, oa, ob, w⟩ := X
  refine q_Spec_mono (c_statusAfter (g := g) (d := d) w (s.2.1 v) 0 hd) (fun o h1 hQ => ?_)
  obtain ⟨e, x, y⟩ := hQ
  rw [u_after V hv] at e
  exact ⟨e, ⟨hs, se, sf, s1, nx, kp, rw, ic, fi, q1, q2, x⟩, y⟩
theorem k_isDialogueHeld {g : q_G} {h : q_H} {d : Nat} {s : ZS} {lc : Nat} {fl : Nat → Int32} {B : Nat} (X : z_X h s lc fl) (V : z_V B s)  (hd : 1 ≤ d) : q_Spec g mX10_isDialogueHeld d 0 0 [.ref (100)] h (q_chg (.inl (some (.int (z_b (x_am_isDialogueHeld s.2.2.2.2.2.2.2.2.1))))) (fun h1 => z_X h1 s lc fl ∧ q_zone h h1 100 115)) := by
  obtain ⟨hs, se, sf, s1, nx, kp, rw, ic, fi, q1, q2, s2, ca, cj, co, won, lost, pf, cv, sc, pc, pp, po, vb, oa, ob, w⟩ := X
  refine q_Spec_mono (c_isDialogueHeld (g := g) (d := d) w  hd) (fun o h1 hQ => ?_)
  obtain ⟨e, x, y⟩ := hQ
  exact ⟨e, ⟨hs, se, sf, s1, nx, kp, rw, ic, fi, q1, q2, x⟩, y⟩
theorem k_moveCount {g : q_G} {h : q_H} {d : Nat} {s : ZS} {lc : Nat} {fl : Nat → Int32} {B : Nat} (X : z_X h s lc fl) (V : z_V B s)  (hd : 0 ≤ d) : q_Spec g mX10_moveCount d 0 0 [.ref (100)] h (q_chg (.inl (some (.int (nI s.2.2.2.2.2.2.2.2.1)))) (fun h1 => z_X h1 s lc fl ∧ q_zone h h1 100 115)) := by
  obtain ⟨hs, se, sf, s1, nx, kp, rw, ic, fi, q1, q2, s2, ca, cj, co, won, lost, pf, cv, sc, pc, pp, po, vb, oa, ob, w⟩ := X
  refine q_Spec_mono (c_moveCount (g := g) (d := d) w  hd) (fun o h1 hQ => ?_)
  obtain ⟨e, x, y⟩ := hQ
  exact ⟨e, ⟨hs, se, sf, s1, nx, kp, rw, ic, fi, q1, q2, x⟩, y⟩
theorem k_moveAt {g : q_G} {h : q_H} {d : Nat} {s : ZS} {lc : Nat} {fl : Nat → Int32} {B : Nat} (X : z_X h s lc fl) (V : z_V B s) {k : Nat} (hk : k < s.2.2.2.2.2.2.2.2.1) (hd : 7 ≤ d) : q_Spec g mX10_moveAt d 1 6 [.ref (100), .int (nI k)] h (q_chg (.inl (some (.int (s.2.2.2.2.2.2.2.2.2.1 k)))) (fun h1 => z_X h1 s lc fl ∧ q_zone h h1 100 115)) := by
  obtain ⟨hs, se, sf, s1, nx, kp, rw, ic, fi, q1, q2, s2, ca, cj, co, won, lost, pf, cv, sc, pc, pp, po, vb, oa, ob, w⟩ := X
  refine q_Spec_mono (c_moveAt (g := g) (d := d) w (nI k) hd) (fun o h1 hQ => ?_)
  obtain ⟨e, x, y⟩ := hQ
  rw [u_moveAt hk V.1.2.1] at e
  exact ⟨e, ⟨hs, se, sf, s1, nx, kp, rw, ic, fi, q1, q2, x⟩, y⟩
theorem k_moveAtN {g : q_G} {h : q_H} {d : Nat} {s : ZS} {lc : Nat} {fl : Nat → Int32} {B : Nat} (X : z_X h s lc fl) (V : z_V B s)  (hd : 7 ≤ d) : q_Spec g mX10_moveAt d 1 6 [.ref (100), .int (nI s.2.2.2.2.2.2.2.2.1)] h (q_chg (.inr "java/lang/IndexOutOfBoundsException") (fun h1 => z_X h1 s lc fl ∧ q_zone h h1 100 115)) := by
  obtain ⟨hs, se, sf, s1, nx, kp, rw, ic, fi, q1, q2, s2, ca, cj, co, won, lost, pf, cv, sc, pc, pp, po, vb, oa, ob, w⟩ := X
  refine q_Spec_mono (c_moveAt (g := g) (d := d) w (nI s.2.2.2.2.2.2.2.2.1) hd) (fun o h1 hQ => ?_)
  obtain ⟨e, x, y⟩ := hQ
  rw [u_moveN V.1.2.1] at e
  exact ⟨e, ⟨hs, se, sf, s1, nx, kp, rw, ic, fi, q1, q2, x⟩, y⟩
