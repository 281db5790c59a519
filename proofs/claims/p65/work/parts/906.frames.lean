/-! the law's own cells beside the object's -/
theorem z_Sb.keepI {h h1 : q_H} {b cn v : Nat} {f : Nat → Int32} (s : z_Sb h b cn f v) (hle : h.1 ≤ h1.1) (e1 : h1.2 b = h.2 b) (e2 : h1.2 v = h.2 v) : z_Sb h1 b cn f v := by
  obtain ⟨ml, cap, bs, u1, u2, r⟩ := s
  exact ⟨ml, cap, bs, ⟨u1.1, Nat.le_trans u1.2.1 hle, u1.2.2.1, e1.trans u1.2.2.2⟩, ⟨u2.1, Nat.le_trans u2.2.1 hle, u2.2.2.1, e2.trans u2.2.2.2⟩, r⟩
theorem z_Sb.own {h : q_H} {b cn v : Nat} {f : Nat → Int32} (s : z_Sb h b cn f v) : ∃ c fs, h.2 b = some (.inr (c, .ref v :: fs)) := by
  obtain ⟨ml, cap, bs, u1, u2, r⟩ := s
  exact ⟨_, _, u1.c0⟩
theorem z_Sb.blt {h : q_H} {b cn v : Nat} {f : Nat → Int32} (s : z_Sb h b cn f v) : b < h.1 := by
  obtain ⟨ml, cap, bs, u1, u2, r⟩ := s
  exact u1.s0
theorem z_X.keepL {h h1 : q_H} {s : ZS} {lc : Nat} {fl : Nat → Int32} (X : z_X h s lc fl) (hle : h.1 ≤ h1.1) (hk : ∀ i, i < h.1 → (i < 215 ∨ z_txt h i) → h1.2 i = h.2 i) : z_X h1 s lc fl := by
  have h215 := X.s0
  obtain ⟨hs, se, sf, s1, nx, kp, rw, ic, fi, q1, q2, s2, ca, cj, co, won, lost, pf, cv, sc, pc, pp, po, vb, oa, ob, w⟩ := X
  obtain ⟨sam, sst, ssv, slt, shs, slb, sga, sex, spr, ssb⟩ := w
  obtain ⟨v1, v2, t1, t2, a1, a2, a3, a4, a5, a6⟩ := ssb
  obtain ⟨c1, f1, o1⟩ := t1.own
  obtain ⟨c2, f2, o2⟩ := t2.own
  refine ⟨hs, se, sf, s1, nx, kp, rw, ic, fi, q1, q2, s2, ca, cj, co, won, lost, pf, cv, sc, pc, pp, po, vb, oa, ob, sam.keepI hle (fun i a b => hk i (by omega) (Or.inl (by omega))), sst.keepI hle (fun i a b => hk i (by omega) (Or.inl (by omega))), ssv.keepI hle (fun i a b => hk i (by omega) (Or.inl (by omega))), slt.keepI hle (fun i a b => hk i (by omega) (Or.inl (by omega))), shs.keepI hle (fun i a b => hk i (by omega) (Or.inl (by omega))), slb.keepI hle (fun i a b => hk i (by omega) (Or.inl (by omega))), sga.keepI hle (fun i a b => hk i (by omega) (Or.inl (by omega))), sex.keepI hle (fun i a b => hk i (by omega) (Or.inl (by omega))), spr.keepI hle (fun i a b => hk i (by omega) (Or.inl (by omega))), ?_⟩
  exact ⟨v1, v2, t1.keepI hle (hk 211 (by omega) (Or.inl (by omega))) (hk v1 t1.vlt (Or.inr ⟨c1, f1, Or.inl o1⟩)), t2.keepI hle (hk 213 (by omega) (Or.inl (by omega))) (hk v2 t2.vlt (Or.inr ⟨c2, f2, Or.inr o2⟩)), a1, a2, a3, Nat.le_trans a4 hle, a5, a6⟩
theorem z_X.tlt {h : q_H} {s : ZS} {lc i : Nat} {fl : Nat → Int32} (X : z_X h s lc fl) (t : z_txt h i) : i < h.1 := by
  obtain ⟨hs, se, sf, s1, nx, kp, rw, ic, fi, q1, q2, s2, ca, cj, co, won, lost, pf, cv, sc, pc, pp, po, vb, oa, ob, w⟩ := X
  obtain ⟨sam, sst, ssv, slt, shs, slb, sga, sex, spr, ssb⟩ := w
  obtain ⟨v1, v2, t1, t2, a1, a2, a3, a4, a5, a6⟩ := ssb
  obtain ⟨c1, f1, o1⟩ := t1.own
  obtain ⟨c2, f2, o2⟩ := t2.own
  have l1 := t1.vlt
  have l2 := t2.vlt
  obtain ⟨c, fs, e | e⟩ := t
  · have e3 := o1.symm.trans e
    injection e3 with e3
    injection e3 with e3
    injection e3 with e4 e5
    injection e5 with e6 e7
    injection e6 with e8
    have e8 : (v1 : Nat) = i := e8
    omega
  · have e3 := o2.symm.trans e
    injection e3 with e3
    injection e3 with e3
    injection e3 with e4 e5
    injection e5 with e6 e7
    injection e6 with e8
    have e8 : (v2 : Nat) = i := e8
    omega
theorem z_X.lineB {h : q_H} {s : ZS} {lc : Nat} {fl : Nat → Int32} (X : z_X h s lc fl) : lc ≤ 142 := by
  obtain ⟨hs, se, sf, s1, nx, kp, rw, ic, fi, q1, q2, s2, ca, cj, co, won, lost, pf, cv, sc, pc, pp, po, vb, oa, ob, w⟩ := X
  obtain ⟨sam, sst, ssv, slt, shs, slb, sga, sex, spr, ssb⟩ := w
  obtain ⟨v1, v2, t1, t2, a1, a2, a3, a4, a5, a6⟩ := ssb
  exact a6
/-- a cell of the law's own -/
def z_my (h : q_H) (i : Nat) (c : (Nat × vp_A) ⊕ (Nat × List Value)) : Prop := 215 ≤ i ∧ i < h.1 ∧ ¬ z_txt h i ∧ h.2 i = some c
theorem z_my.zone {h h1 : q_H} {i : Nat} {c : (Nat × vp_A) ⊕ (Nat × List Value)} (m : z_my h i c) (q : q_zone h h1 100 115) : z_my h1 i c := by
  obtain ⟨a, b, t, e⟩ := m
  obtain ⟨e1, t1⟩ := q.2.2 i a b t
  exact ⟨a, Nat.lt_of_lt_of_le b q.1, t1, e1.trans e⟩
theorem z_my.cell {h : q_H} {i : Nat} {c : (Nat × vp_A) ⊕ (Nat × List Value)} (m : z_my h i c) : h.2 i = some c := m.2.2.2
theorem z_my.r0 {h : q_H} {i : Nat} {c : (Nat × vp_A) ⊕ (Nat × List Value)} (m : z_my h i c) : q_R0 ≤ i := Nat.le_trans (by decide) m.1
/-- the law changes cells of its own (those of P) and makes new ones -/
def q_ow (h h1 : q_H) (P : Nat → Prop) : Prop := h.1 ≤ h1.1 ∧ (∀ i, i < h.1 → ¬ P i → h1.2 i = h.2 i) ∧ ∀ i, P i → 215 ≤ i ∧ ¬ z_txt h i
theorem z_X.ow {h h1 : q_H} {s : ZS} {lc : Nat} {fl : Nat → Int32} {P : Nat → Prop} (X : z_X h s lc fl) (q : q_ow h h1 P) : z_X h1 s lc fl := X.keepL q.1 (fun i hi hx => q.2.1 i hi (fun hp => by
  obtain ⟨a, b⟩ := q.2.2 i hp
  rcases hx with hx | hx
  · omega
  · exact b hx))
theorem q_ow.tx {h h1 : q_H} {P : Nat → Prop} (q : q_ow h h1 P) (h215 : 215 ≤ h.1) {i : Nat} (n : ¬ z_txt h i) : ¬ z_txt h1 i :=
  z_txt.to (q.2.1 211 (by omega) (fun hp => by have := (q.2.2 _ hp).1; omega)) (q.2.1 213 (by omega) (fun hp => by have := (q.2.2 _ hp).1; omega)) n
theorem z_my.ow {h h1 : q_H} {i : Nat} {c : (Nat × vp_A) ⊕ (Nat × List Value)} {P : Nat → Prop} (m : z_my h i c) (q : q_ow h h1 P) (hp : ¬ P i) : z_my h1 i c := by
  obtain ⟨a, b, t, e⟩ := m
  exact ⟨a, Nat.lt_of_lt_of_le b q.1, q.tx (by omega) t, (q.2.1 i b hp).trans e⟩
theorem q_ow.push {h h1 : q_H} (e1 : h.1 ≤ h1.1) (e2 : ∀ j, j < h.1 → h1.2 j = h.2 j) : q_ow h h1 (fun _ => False) := ⟨e1, fun i hi _ => e2 i hi, fun _ hp => hp.elim⟩
theorem q_ow.set {h : q_H} {i : Nat} {c c' : (Nat × vp_A) ⊕ (Nat × List Value)} (m : z_my h i c) : q_ow h (q_set h i c') (fun j => j = i) := ⟨Nat.le_refl _, fun j _ hp => q_set_ne hp, fun j hp => by
  subst hp
  exact ⟨m.1, m.2.2.1⟩⟩
theorem z_my.put {h : q_H} {i : Nat} {c c' : (Nat × vp_A) ⊕ (Nat × List Value)} (m : z_my h i c) : z_my (q_set h i c') i c' := ⟨m.1, m.2.1, (q_ow.set m).tx (by have := m.1; have := m.2.1; omega) m.2.2.1, q_set_eq⟩
/-- a cell made just now -/
theorem z_my.new {h h1 : q_H} {s : ZS} {lc : Nat} {fl : Nat → Int32} {i : Nat} {c : (Nat × vp_A) ⊕ (Nat × List Value)} (X : z_X h s lc fl) (h1' : h.1 ≤ i) (h2 : i < h1.1) (e : h1.2 i = some c) (o : ∀ j, j < h.1 → h1.2 j = h.2 j) : z_my h1 i c := by
  have h215 := X.s0
  exact ⟨by omega, h2, z_txt.to (o 211 (by omega)) (o 213 (by omega)) (fun t => by have := X.tlt t; omega), e⟩
/-- a String that the law holds -/
def z_LS (h : q_H) (r v n : Nat) (f : Nat → Int32) : Prop := z_Str h r v n f ∧ (q_R0 ≤ r → 215 ≤ r ∧ r < h.1 ∧ ¬ z_txt h r ∧ 215 ≤ v ∧ v < h.1 ∧ ¬ z_txt h v)
theorem z_Str.keepI {h h1 : q_H} {r v n : Nat} {f : Nat → Int32} (z : z_Str h r v n f) (hle : h.1 ≤ h1.1) (e : q_R0 ≤ r → h1.2 r = h.2 r ∧ h1.2 v = h.2 v) : z_Str h1 r v n f := by
  obtain ⟨z1, z2, z3 | ⟨a, s0, rv, c0, bs, by1, hb⟩⟩ := z
  · exact ⟨z1, z2, Or.inl z3⟩
  · obtain ⟨e1, e2⟩ := e a
    exact ⟨z1, z2, Or.inr ⟨a, Nat.le_trans s0 hle, rv, e1.trans c0, bs, ⟨by1.1, Nat.le_trans by1.2.1 hle, by1.2.2.1, e2.trans by1.2.2.2⟩, hb⟩⟩
theorem z_LS.zone {h h1 : q_H} {r v n : Nat} {f : Nat → Int32} (z : z_LS h r v n f) (q : q_zone h h1 100 115) : z_LS h1 r v n f := by
  refine ⟨z.1.keepI q.1 (fun hr => ?_), fun hr => ?_⟩
  · obtain ⟨a, b, c, d, e, g⟩ := z.2 hr
    exact ⟨(q.2.2 r a b c).1, (q.2.2 v d e g).1⟩
  · obtain ⟨a, b, c, d, e, g⟩ := z.2 hr
    exact ⟨a, Nat.lt_of_lt_of_le b q.1, (q.2.2 r a b c).2, d, Nat.lt_of_lt_of_le e q.1, (q.2.2 v d e g).2⟩
theorem z_LS.ow {h h1 : q_H} {r v n : Nat} {f : Nat → Int32} {P : Nat → Prop} (z : z_LS h r v n f) (q : q_ow h h1 P) (hp : ¬ P r ∧ ¬ P v) : z_LS h1 r v n f := by
  refine ⟨z.1.keepI q.1 (fun hr => ?_), fun hr => ?_⟩
  · obtain ⟨a, b, c, d, e, g⟩ := z.2 hr
    exact ⟨q.2.1 r b hp.1, q.2.1 v e hp.2⟩
  · obtain ⟨a, b, c, d, e, g⟩ := z.2 hr
    exact ⟨a, Nat.lt_of_lt_of_le b q.1, q.tx (by omega) c, d, Nat.lt_of_lt_of_le e q.1, q.tx (by omega) g⟩
theorem z_LS.const {h : q_H} {k : Nat} (hk : k < 11) : z_LS h (14 + k) (25 + k) (q_pat k).length (fun j => (q_pat k).getD j 0) := ⟨z_const hk, fun c => by rw [q_R0e] at c; omega⟩
theorem z_LS.lo {h : q_H} {r v n : Nat} {f : Nat → Int32} (z : z_LS h r v n f) : (3 ≤ r ∧ r < 36) ∨ q_R0 ≤ r := z.1.isS.lo
/-- a builder that the law holds -/
def z_LB (h : q_H) (b cn : Nat) (f : Nat → Int32) (w : Nat) : Prop := z_Sb h b cn f w ∧ 215 ≤ b ∧ ¬ z_txt h b ∧ 215 ≤ w ∧ ¬ z_txt h w
theorem z_LB.zone {h h1 : q_H} {b cn w : Nat} {f : Nat → Int32} (z : z_LB h b cn f w) (q : q_zone h h1 100 115) : z_LB h1 b cn f w := by
  obtain ⟨s, a, c, d, e⟩ := z
  obtain ⟨x1, x2⟩ := q.2.2 b a s.blt c
  obtain ⟨y1, y2⟩ := q.2.2 w d s.vlt e
  exact ⟨s.keepI q.1 x1 y1, a, x2, d, y2⟩
theorem z_LB.r0 {h : q_H} {b cn w : Nat} {f : Nat → Int32} (z : z_LB h b cn f w) : q_R0 ≤ b := Nat.le_trans (by decide) z.2.1
abbrev mL_law : q_M := (yL_law, cL_law, 32, (some .boolean), [])
section LWS
variable {g : q_G} {d mc ms : Nat} {Q : q_O → q_H → Prop} {kc ks pc : Nat} {ls st : List Value} {h : q_H} {s : ZS} {lc : Nat} {fl : Nat → Int32}
theorem r_newSb (X : z_X h s lc fl) (hd0 : decode mL_law.2.1 pc = .ok (.new 171, 3)) (hd1 : decode mL_law.2.1 (pc + 3) = .ok (.dup, 1)) (hd2 : decode mL_law.2.1 (pc + 4) = .ok (.invokespecial 173, 3)) (hst : st.length ≤ 2) (hd : 4 ≤ d) (hc : kc + 2 ≤ mc) (hs : ks + 20 ≤ ms)
    (kk : ∀ h1, z_X h1 s lc fl → z_LB h1 h.1 0 (fun _ => 0) (h.1 + 1) → q_ow h h1 (fun _ => False) → q_W g mL_law d mc ms Q (kc + 2) (ks + 20) (pc + 7) ls (.ref h.1 :: st) h1) : q_W g mL_law d mc ms Q kc ks pc ls st h := by
  have h215 := X.s0
  refine q_new (fs := [.null, .int 0, .int 0, .int 0]) kC_J4 kL_L_171 kV_J4 kJ_J4 rfl hd0 (by intro j hj; have hj9 : j = 0 ∨ j = 1 ∨ j = 2 ∨ j = 3 := (by omega); rcases hj9 with rfl | rfl | rfl | rfl <;> rfl) (by omega) (by omega) (fun hz => ?_)
  refine q_pushE (P := fun H => q_W _ _ _ _ _ _ _ _ _ _ _ H) (fun h1 s_h1 c_h1 o_h1 => ?_)
  refine q_dup hd1 rfl ?_
  refine q_invI (mc' := 1) (ms' := 16) (d' := d - 1) (as := []) (i := h.1) rfl rfl hz hd2 kM_J4_init_da8c8 kL_L_173 kI_J4_init_da8c8 rfl rfl rfl (by show (Value.ref h.1 :: st).length ≤ 4; simp only [List.length_cons]; omega) (by omega) (by decide) (by omega) (by omega) (e_J4_init_da8c8 (d := d - 1) hz s_h1 c_h1 (by omega)) (q_kC (fun h2 hB => ?_)) q_xC
  obtain ⟨b1, b2, b3, b4⟩ := hB
  have o2 : ∀ j, j < h.1 → h2.2 j = h.2 j := fun j hj => (b2 j hj).trans (o_h1 j (by omega))
  have ow : q_ow h h2 (fun _ => False) := q_ow.push (by omega) o2
  have sb := z_newSb (b := h.1) hz b1 b3 b4
  have m1 := z_my.new X (Nat.le_refl _) (by omega) b3 o2
  have m2 := z_my.new X (Nat.le_succ _) (by omega) b4 o2
  exact kk h2 (X.ow ow) ⟨sb, m1.1, m1.2.2.1, m2.1, m2.2.2.1⟩ ow
theorem ow_two {h1 : q_H} {b cn w w' n' : Nat} {f f' : Nat → Int32} (X : z_X h s lc fl) (L : z_LB h b cn f w) (z : z_Sb h1 b n' f' w') (hw : w' = w ∨ h.1 ≤ w') (q : q_two h h1 b w) : q_ow h h1 (fun i => i = b ∨ i = w) ∧ z_LB h1 b n' f' w' := by
  obtain ⟨sb, a, c, d9, e⟩ := L
  have h215 := X.s0
  have ow : q_ow h h1 (fun i => i = b ∨ i = w) := ⟨q.1, fun i hi hp => q.2 i hi (fun e => hp (Or.inl e)) (fun e => hp (Or.inr e)), fun i hp => by
    rcases hp with rfl | rfl
    · exact ⟨a, c⟩
    · exact ⟨d9, e⟩⟩
  refine ⟨ow, z, a, ow.tx h215 c, ?_⟩
  rcases hw with rfl | hw
  · exact ⟨d9, ow.tx h215 e⟩
  · exact ⟨by omega, ow.tx h215 (fun t => by have := X.tlt t; omega)⟩
theorem r_appS {b cn w r v n : Nat} {f fs : Nat → Int32} (X : z_X h s lc fl) (L : z_LB h b cn f w) (S : z_LS h r v n fs) (hne : r ≠ b ∧ r ≠ w ∧ v ≠ b ∧ v ≠ w) (hcn : cn + n ≤ 142) (hdc : decode mL_law.2.1 pc = .ok (.invokevirtual 174, 3)) (hst : st.length ≤ 3) (hd : 8 ≤ d) (hc : kc + 1 ≤ mc) (hs : ks + 286 ≤ ms)
    (kk : ∀ h1 w', z_X h1 s lc fl → z_LB h1 b (cn + n) (x_cat f cn fs) w' → q_ow h h1 (fun i => i = b ∨ i = w) → (w' = w ∨ h.1 ≤ w') → q_W g mL_law d mc ms Q (kc + 1) (ks + 286) (pc + 3) ls (.ref b :: st) h1) : q_W g mL_law d mc ms Q kc ks pc ls (.ref r :: .ref b :: st) h := by
  obtain ⟨fs9, hc9⟩ := L.1.cell
  refine q_invV (mc' := 1) (ms' := 286) (d' := d - 1) (as := [.ref r]) hdc kM_J4_append_15ec4 kL_L_174 kI_J4_append_15ec4 kS_J4_append_15ec4 rfl (kC_J4.1) hc9 rfl rfl (by omega) (by omega) (by decide) (by omega) (by omega) (e_appS (d := d - 1) S.1 L.1 hne hcn (by omega)) (q_kC (fun h1 hB => ?_)) q_xC
  obtain ⟨w', z, hw, q⟩ := hB
  obtain ⟨ow, lb⟩ := ow_two X L z hw q
  exact kk h1 w' (X.ow ow) lb ow hw
theorem r_appI {b cn w m : Nat} {f : Nat → Int32} (X : z_X h s lc fl) (L : z_LB h b cn f w) (hm : m < 10000) (hcn : cn + sb_dg m ≤ 142) (hdc : decode mL_law.2.1 pc = .ok (.invokevirtual 180, 3)) (hst : st.length ≤ 3) (hd : 8 ≤ d) (hc : kc + 1 ≤ mc) (hs : ks + 286 ≤ ms)
    (kk : ∀ h1 w', z_X h1 s lc fl → z_LB h1 b (cn + sb_dg m) (x_num f cn m) w' → q_ow h h1 (fun i => i = b ∨ i = w) → (w' = w ∨ h.1 ≤ w') → q_W g mL_law d mc ms Q (kc + 1) (ks + 286) (pc + 3) ls (.ref b :: st) h1) : q_W g mL_law d mc ms Q kc ks pc ls (.int (nI m) :: .ref b :: st) h := by
  obtain ⟨fs9, hc9⟩ := L.1.cell
  refine q_invV (mc' := 1) (ms' := 286) (d' := d - 1) (as := [.int (nI m)]) hdc kM_J4_append_bf812 kL_L_180 kI_J4_append_bf812 kS_J4_append_bf812 rfl (kC_J4.1) hc9 rfl rfl (by omega) (by omega) (by decide) (by omega) (by omega) (e_appI (d := d - 1) L.1 hm hcn (by omega)) (q_kC (fun h1 hB => ?_)) q_xC
  obtain ⟨w', z, hw, q⟩ := hB
  obtain ⟨ow, lb⟩ := ow_two X L z hw q
  exact kk h1 w' (X.ow ow) lb ow hw
theorem r_appC {b cn w : Nat} {x : Int32} {f : Nat → Int32} (X : z_X h s lc fl) (L : z_LB h b cn f w) (hx : z_lat x) (hcn : cn + 1 ≤ 142) (hdc : decode mL_law.2.1 pc = .ok (.invokevirtual 202, 3)) (hst : st.length ≤ 3) (hd : 8 ≤ d) (hc : kc + 1 ≤ mc) (hs : ks + 286 ≤ ms)
    (kk : ∀ h1 w', z_X h1 s lc fl → z_LB h1 b (cn + 1) (upd f cn x) w' → q_ow h h1 (fun i => i = b ∨ i = w) → (w' = w ∨ h.1 ≤ w') → q_W g mL_law d mc ms Q (kc + 1) (ks + 286) (pc + 3) ls (.ref b :: st) h1) : q_W g mL_law d mc ms Q kc ks pc ls (.int x :: .ref b :: st) h := by
  obtain ⟨fs9, hc9⟩ := L.1.cell
  refine q_invV (mc' := 1) (ms' := 286) (d' := d - 1) (as := [.int x]) hdc kM_J4_append_cf468 kL_L_202 kI_J4_append_cf468 kS_J4_append_cf468 rfl (kC_J4.1) hc9 rfl rfl (by omega) (by omega) (by decide) (by omega) (by omega) (e_appC (d := d - 1) L.1 hx hcn (by omega)) (q_kC (fun h1 hB => ?_)) q_xC
  obtain ⟨w', z, hw, q⟩ := hB
  obtain ⟨ow, lb⟩ := ow_two X L z hw q
  exact kk h1 w' (X.ow ow) lb ow hw
theorem r_toStr {b cn w : Nat} {f : Nat → Int32} (X : z_X h s lc fl) (L : z_LB h b cn f w) (hcn : cn ≤ 142) (hdc : decode mL_law.2.1 pc = .ok (.invokevirtual 183, 3)) (hst : st.length ≤ 3) (hd : 8 ≤ d) (hc : kc + 2 ≤ mc) (hs : ks + 146 ≤ ms)
    (kk : ∀ h1, z_X h1 s lc fl → z_LS h1 h.1 (h.1 + 1) cn f → q_ow h h1 (fun _ => False) → q_W g mL_law d mc ms Q (kc + 2) (ks + 146) (pc + 3) ls (.ref h.1 :: st) h1) : q_W g mL_law d mc ms Q kc ks pc ls (.ref b :: st) h := by
  obtain ⟨fs9, hc9⟩ := L.1.cell
  have h215 := X.s0
  refine q_invV (mc' := 2) (ms' := 146) (d' := d - 1) (as := []) hdc kM_J4_toString_0e30d kL_L_183 kI_J4_toString_0e30d kS_J4_toString_0e30d rfl (kC_J4.1) hc9 rfl rfl (by omega) (by omega) (by decide) (by omega) (by omega) (e_toString (d := d - 1) L.1 hcn (by omega)) (q_kC (fun h1 hB => ?_)) q_xC
  obtain ⟨z, s1, o⟩ := hB
  have ow : q_ow h h1 (fun _ => False) := q_ow.push (by omega) o
  refine kk h1 (X.ow ow) ⟨z, fun _ => ⟨by omega, by omega, ow.tx h215 (fun t => by have := X.tlt t; omega), by omega, by omega, ow.tx h215 (fun t => by have := X.tlt t; omega)⟩⟩ ow
end LWS
