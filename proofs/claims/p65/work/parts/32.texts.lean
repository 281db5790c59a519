theorem q_widen {g : q_G} {M : q_M} {d mc ms : Nat} {Q : q_O → q_H → Prop} {kc ks pc kc' ks' : Nat} {ls st : List Value} {h : q_H} (h1 : kc ≤ kc') (h2 : ks ≤ ks') (kk : q_W g M d mc ms Q kc' ks' pc ls st h) : q_W g M d mc ms Q kc ks pc ls st h := fun p e s m args below meth c H locs mls X hR hS hL => W.widen h1 h2 (kk p e s m args below meth c H locs mls X hR hS hL)
def z_txt (h : q_H) (i : Nat) : Prop := ∃ c fs, h.2 211 = some (.inr (c, .ref i :: fs)) ∨ h.2 213 = some (.inr (c, .ref i :: fs))
/-- of the first cells (under 215) none but those from b on, k of them, has changed; of the later ones none but the bytes of the two texts -/
def q_zone (h h1 : q_H) (b k : Nat) : Prop := h.1 ≤ h1.1 ∧ (∀ i, i < 215 → (i < b ∨ b + k ≤ i) → h1.2 i = h.2 i) ∧ ∀ i, 215 ≤ i → i < h.1 → ¬ z_txt h i → h1.2 i = h.2 i ∧ ¬ z_txt h1 i
theorem q_zone.rfl' {h : q_H} {b k : Nat} : q_zone h h b k := ⟨Nat.le_refl _, fun _ _ _ => rfl, fun _ _ _ n => ⟨rfl, n⟩⟩
theorem q_zone.trans {h h1 h2 : q_H} {b k : Nat} (p : q_zone h h1 b k) (q : q_zone h1 h2 b k) : q_zone h h2 b k := ⟨Nat.le_trans p.1 q.1, fun i hi hx => (q.2.1 i hi hx).trans (p.2.1 i hi hx), fun i h1 h2 n => by
  obtain ⟨e1, n1⟩ := p.2.2 i h1 h2 n
  obtain ⟨e2, n2⟩ := q.2.2 i h1 (Nat.lt_of_lt_of_le h2 p.1) n1
  exact ⟨e2.trans e1, n2⟩⟩
theorem q_zone.wide {h h1 : q_H} {b k b1 k1 : Nat} (p : q_zone h h1 b k) (h1' : b1 ≤ b) (h2 : b + k ≤ b1 + k1) : q_zone h h1 b1 k1 := ⟨p.1, fun i hi hx => p.2.1 i hi (by omega), p.2.2⟩
theorem z_txt.to {h h1 : q_H} {i : Nat} (e1 : h1.2 211 = h.2 211) (e2 : h1.2 213 = h.2 213) (n : ¬ z_txt h i) : ¬ z_txt h1 i := by
  rintro ⟨c, fs, h | h⟩
  · exact n ⟨c, fs, Or.inl (e1.symm.trans h)⟩
  · exact n ⟨c, fs, Or.inr (e2.symm.trans h)⟩
theorem q_same.zone {h h1 : q_H} {b k : Nat} (p : q_same h h1 b k) (hh : 215 ≤ h.1) (hk : b + k ≤ 211 := by omega) : q_zone h h1 b k := ⟨p.1, fun i hi hx => p.2 i (by omega) hx, fun i h1 h2 n => ⟨p.2 i h2 (by omega), z_txt.to (p.2 211 (by omega) (by omega)) (p.2 213 (by omega) (by omega)) n⟩⟩
theorem q_zone.skip {h : q_H} {b k : Nat} (hh : 215 ≤ h.1) : q_zone h (q_skip h) b k := ⟨Nat.le_succ _, fun _ _ _ => rfl, fun _ _ _ n => ⟨rfl, n⟩⟩
theorem z_S2.keepI {h h1 : q_H} {b : Nat} {n : Nat} {id : Nat → Int32} {wt : Nat → Int32} {ag : Nat → Int32} {tg : Nat → Int32} {att : Nat → Int32} {ni : Int32} {dy : Int32} {mn : Nat} {mv : Nat → Int32} {en : Int32} {wo : Int32} {br : Int32} (s : z_S2 h b n id wt ag tg att ni dy mn mv en wo br) (hle : h.1 ≤ h1.1) (hq : ∀ i, b ≤ i → i < b + 8 → h1.2 i = h.2 i) : z_S2 h1 b n id wt ag tg att ni dy mn mv en wo br := by
  unfold z_S2 at s ⊢
  obtain ⟨w0, w1, w2, w3, w4, w5, w6, w7, w8, w9, w10, w11⟩ := s
  exact ⟨w0, Nat.le_trans w1 hle, w2, w3, (hq _ (by omega) (by omega)).trans w4, (hq _ (by omega) (by omega)).trans w5, (hq _ (by omega) (by omega)).trans w6, (hq _ (by omega) (by omega)).trans w7, (hq _ (by omega) (by omega)).trans w8, (hq _ (by omega) (by omega)).trans w9, (hq _ (by omega) (by omega)).trans w10, (hq _ (by omega) (by omega)).trans w11⟩
theorem z_S2.keepZ {h h1 : q_H} {b b1 k1 : Nat} {n : Nat} {id : Nat → Int32} {wt : Nat → Int32} {ag : Nat → Int32} {tg : Nat → Int32} {att : Nat → Int32} {ni : Int32} {dy : Int32} {mn : Nat} {mv : Nat → Int32} {en : Int32} {wo : Int32} {br : Int32} (s : z_S2 h b n id wt ag tg att ni dy mn mv en wo br) (q : q_zone h h1 b1 k1) (hx : (b + 8 ≤ b1 ∨ b1 + k1 ≤ b) ∧ b + 8 ≤ 215) : z_S2 h1 b n id wt ag tg att ni dy mn mv en wo br := s.keepI q.1 (fun i _ _ => q.2.1 i (by omega) (by omega))
theorem z_Lb.keepI {h h1 : q_H} {b : Nat} {ac : Int32} {rj : Int32} {ro : Nat → Int32} (s : z_Lb h b ac rj ro) (hle : h.1 ≤ h1.1) (hq : ∀ i, b ≤ i → i < b + 2 → h1.2 i = h.2 i) : z_Lb h1 b ac rj ro := by
  unfold z_Lb at s ⊢
  obtain ⟨w0, w1, w2, w3⟩ := s
  exact ⟨w0, Nat.le_trans w1 hle, (hq _ (by omega) (by omega)).trans w2, (hq _ (by omega) (by omega)).trans w3⟩
theorem z_Lb.keepZ {h h1 : q_H} {b b1 k1 : Nat} {ac : Int32} {rj : Int32} {ro : Nat → Int32} (s : z_Lb h b ac rj ro) (q : q_zone h h1 b1 k1) (hx : (b + 2 ≤ b1 ∨ b1 + k1 ≤ b) ∧ b + 2 ≤ 215) : z_Lb h1 b ac rj ro := s.keepI q.1 (fun i _ _ => q.2.1 i (by omega) (by omega))
theorem z_Ga.keepI {h h1 : q_H} {b : Nat} {won : Nat → Int32} {lost : Nat → Int32} (s : z_Ga h b won lost) (hle : h.1 ≤ h1.1) (hq : ∀ i, b ≤ i → i < b + 3 → h1.2 i = h.2 i) : z_Ga h1 b won lost := by
  unfold z_Ga at s ⊢
  obtain ⟨w0, w1, w2, w3, w4⟩ := s
  exact ⟨w0, Nat.le_trans w1 hle, (hq _ (by omega) (by omega)).trans w2, (hq _ (by omega) (by omega)).trans w3, (hq _ (by omega) (by omega)).trans w4⟩
theorem z_Ga.keepZ {h h1 : q_H} {b b1 k1 : Nat} {won : Nat → Int32} {lost : Nat → Int32} (s : z_Ga h b won lost) (q : q_zone h h1 b1 k1) (hx : (b + 3 ≤ b1 ∨ b1 + k1 ≤ b) ∧ b + 3 ≤ 215) : z_Ga h1 b won lost := s.keepI q.1 (fun i _ _ => q.2.1 i (by omega) (by omega))
theorem z_Ex.keepI {h h1 : q_H} {b : Nat} {pf : Nat → Int32} {cv : Nat → Int32} {sc : Nat} (s : z_Ex h b pf cv sc) (hle : h.1 ≤ h1.1) (hq : ∀ i, b ≤ i → i < b + 3 → h1.2 i = h.2 i) : z_Ex h1 b pf cv sc := by
  unfold z_Ex at s ⊢
  obtain ⟨w0, w1, w2, w3, w4, w5⟩ := s
  exact ⟨w0, Nat.le_trans w1 hle, w2, (hq _ (by omega) (by omega)).trans w3, (hq _ (by omega) (by omega)).trans w4, (hq _ (by omega) (by omega)).trans w5⟩
theorem z_Ex.keepZ {h h1 : q_H} {b b1 k1 : Nat} {pf : Nat → Int32} {cv : Nat → Int32} {sc : Nat} (s : z_Ex h b pf cv sc) (q : q_zone h h1 b1 k1) (hx : (b + 3 ≤ b1 ∨ b1 + k1 ≤ b) ∧ b + 3 ≤ 215) : z_Ex h1 b pf cv sc := s.keepI q.1 (fun i _ _ => q.2.1 i (by omega) (by omega))
theorem z_Pr.keepI {h h1 : q_H} {b : Nat} {pc : Nat} {pp : Nat} {po : Int32} {vb : Nat → Int32} {oa : Nat → Int32} {ob : Nat → Int32} (s : z_Pr h b pc pp po vb oa ob) (hle : h.1 ≤ h1.1) (hq : ∀ i, b ≤ i → i < b + 4 → h1.2 i = h.2 i) : z_Pr h1 b pc pp po vb oa ob := by
  unfold z_Pr at s ⊢
  obtain ⟨w0, w1, w2, w3, w4, w5, w6, w7⟩ := s
  exact ⟨w0, Nat.le_trans w1 hle, w2, w3, (hq _ (by omega) (by omega)).trans w4, (hq _ (by omega) (by omega)).trans w5, (hq _ (by omega) (by omega)).trans w6, (hq _ (by omega) (by omega)).trans w7⟩
theorem z_Pr.keepZ {h h1 : q_H} {b b1 k1 : Nat} {pc : Nat} {pp : Nat} {po : Int32} {vb : Nat → Int32} {oa : Nat → Int32} {ob : Nat → Int32} (s : z_Pr h b pc pp po vb oa ob) (q : q_zone h h1 b1 k1) (hx : (b + 4 ≤ b1 ∨ b1 + k1 ≤ b) ∧ b + 4 ≤ 215) : z_Pr h1 b pc pp po vb oa ob := s.keepI q.1 (fun i _ _ => q.2.1 i (by omega) (by omega))
theorem z_Am.keepI {h h1 : q_H} {b : Nat} {hs : Bool} {se : Int32} {sf : Int32} (s : z_Am h b hs se sf) (hle : h.1 ≤ h1.1) (hq : ∀ i, b ≤ i → i < b + 1 → h1.2 i = h.2 i) : z_Am h1 b hs se sf := by
  unfold z_Am at s ⊢
  obtain ⟨w0, w1, w2⟩ := s
  exact ⟨w0, Nat.le_trans w1 hle, (hq _ (by omega) (by omega)).trans w2⟩
theorem z_Am.keepZ {h h1 : q_H} {b b1 k1 : Nat} {hs : Bool} {se : Int32} {sf : Int32} (s : z_Am h b hs se sf) (q : q_zone h h1 b1 k1) (hx : (b + 1 ≤ b1 ∨ b1 + k1 ≤ b) ∧ b + 1 ≤ 215) : z_Am h1 b hs se sf := s.keepI q.1 (fun i _ _ => q.2.1 i (by omega) (by omega))
theorem z_S2t.keepZ {h h1 : q_H} {b b1 k1 : Nat} {s : ZS} (t : z_S2t h b s) (q : q_zone h h1 b1 k1) (hx : (b + 8 ≤ b1 ∨ b1 + k1 ≤ b) ∧ b + 8 ≤ 215) : z_S2t h1 b s := z_S2.keepZ t q hx
theorem z_Hs.keepZ {h h1 : q_H} {b b1 k1 nx kp : Nat} {rw : Nat → ZS} (s : z_Hs h b nx kp rw) (q : q_zone h h1 b1 k1) (hx : (125 + 74 ≤ b1 ∨ b1 + k1 ≤ 125) ∧ 125 + 74 ≤ 215) : z_Hs h1 b nx kp rw := by
  obtain ⟨w0, w1, w2, w3, w4, w5⟩ := s
  exact ⟨Nat.le_trans w0 q.1, w1, w2, (q.2.1 _ (by omega) (by omega)).trans w3, (q.2.1 _ (by omega) (by omega)).trans w4, fun r hr => (w5 r hr).keepZ q (by omega)⟩
theorem z_Sb.keep2 {h h1 : q_H} {b cn v b1 v1 : Nat} {f : Nat → Int32} (s : z_Sb h b cn f v) (q : q_two h h1 b1 v1) (hx : b ≠ b1 ∧ b ≠ v1 ∧ v ≠ b1 ∧ v ≠ v1) : z_Sb h1 b cn f v := by
  obtain ⟨ml, cap, bs, s1, s2, r⟩ := s
  exact ⟨ml, cap, bs, s1.keep2 q hx.1 hx.2.1, s2.keep2 q hx.2.2.1 hx.2.2.2, r⟩
/-- both texts: what is typed at 211, the line at 213 -/
def z_Sbs (h : q_H) (_b ic : Nat) (fi : Nat → Int32) (lc : Nat) (fl : Nat → Int32) : Prop :=
  ∃ v1 v2 : Nat, z_Sb h 211 ic fi v1 ∧ z_Sb h 213 lc fl v2 ∧ (v1 = 212 ∨ 215 ≤ v1) ∧ (v2 = 214 ∨ 215 ≤ v2) ∧ v1 ≠ v2 ∧ 215 ≤ h.1 ∧ ic ≤ 60 ∧ lc ≤ 142
theorem z_Sb.vlt {h : q_H} {b cn v : Nat} {f : Nat → Int32} (s : z_Sb h b cn f v) : v < h.1 := by
  obtain ⟨ml, cap, bs, s1, s2, r⟩ := s
  exact s2.s0
section SBS
variable {h h1 : q_H} {b ic lc : Nat} {fi fl : Nat → Int32}
theorem z_Sbs.s0 (s : z_Sbs h b ic fi lc fl) : 215 ≤ h.1 := by
  obtain ⟨v1, v2, s1, s2, a1, a2, a3, a4, a5, a6⟩ := s
  exact a4
theorem z_Sbs.bic (s : z_Sbs h b ic fi lc fl) : ic ≤ 60 := by
  obtain ⟨v1, v2, s1, s2, a1, a2, a3, a4, a5, a6⟩ := s
  exact a5
theorem z_Sbs.blc (s : z_Sbs h b ic fi lc fl) : lc ≤ 142 := by
  obtain ⟨v1, v2, s1, s2, a1, a2, a3, a4, a5, a6⟩ := s
  exact a6
theorem z_Sbs.lati (s : z_Sbs h b ic fi lc fl) {j : Nat} (hj : j < ic) : z_lat (fi j) := by
  obtain ⟨v1, v2, s1, s2, -⟩ := s
  exact s1.lat hj
theorem z_Sbs.latl (s : z_Sbs h b ic fi lc fl) {j : Nat} (hj : j < lc) : z_lat (fl j) := by
  obtain ⟨v1, v2, s1, s2, -⟩ := s
  exact s2.lat hj
theorem z_Sbs.celli (s : z_Sbs h b ic fi lc fl) : ∃ fs, h.2 211 = some (.inr (1, fs)) := by
  obtain ⟨v1, v2, s1, s2, -⟩ := s
  exact s1.cell
theorem z_Sbs.celll (s : z_Sbs h b ic fi lc fl) : ∃ fs, h.2 213 = some (.inr (1, fs)) := by
  obtain ⟨v1, v2, s1, s2, -⟩ := s
  exact s2.cell
theorem z_Sbs.keep (s : z_Sbs h b ic fi lc fl) {b1 k1 : Nat} (q : q_same h h1 b1 k1) (hx : (211 + 4 ≤ b1 ∨ b1 + k1 ≤ 211) ∧ b1 + k1 ≤ 215) : z_Sbs h1 b ic fi lc fl := by
  obtain ⟨v1, v2, s1, s2, a1, a2, a3, a4, a5, a6⟩ := s
  exact ⟨v1, v2, s1.keep q (by omega), s2.keep q (by omega), a1, a2, a3, Nat.le_trans a4 q.1, a5, a6⟩
theorem z_Sbs.ofl (s : z_Sbs h b ic fi lc fl) {v1 v2 v' lc' : Nat} {fl' : Nat → Int32} (s1 : z_Sb h 211 ic fi v1) (s2 : z_Sb h 213 lc fl v2) (a1 : v1 = 212 ∨ 215 ≤ v1) (a2 : v2 = 214 ∨ 215 ≤ v2) (a3 : v1 ≠ v2) (t : z_Sb h1 213 lc' fl' v') (hv : v' = v2 ∨ h.1 ≤ v') (pp : q_two h h1 213 v2) (hl : lc' ≤ 142) : z_Sbs h1 b ic fi lc' fl' ∧ q_zone h h1 211 4 := by
  have a4 := s.s0
  have l1 := s1.vlt
  refine ⟨⟨v1, v', s1.keep2 pp (by omega), t, a1, by omega, by omega, Nat.le_trans a4 pp.1, s.bic, hl⟩, pp.1, fun i hi hx => pp.2 i (by omega) (by omega) (by omega), fun i h3 h4 n => ?_⟩
  have o2 : i ≠ v2 := fun e => n (by
    subst e
    obtain ⟨ml, cap, bs, u1, -⟩ := s2
    exact ⟨_, _, Or.inr u1.c0⟩)
  refine ⟨pp.2 i h4 (by omega) o2, ?_⟩
  rintro ⟨c, fs, e | e⟩
  · exact n ⟨c, fs, Or.inl ((pp.2 211 (by omega) (by omega) (by omega)).symm.trans e)⟩
  · obtain ⟨ml, cap, bs, u1, -⟩ := t
    have e3 := u1.c0.symm.trans e
    injection e3 with e3
    injection e3 with e3
    injection e3 with e4 e5
    injection e5 with e6 e7
    injection e6 with e8
    have e8 : (v' : Nat) = i := e8
    omega
theorem z_Sbs.ofi (s : z_Sbs h b ic fi lc fl) {v1 v2 v' ic' : Nat} {fi' : Nat → Int32} (s1 : z_Sb h 211 ic fi v1) (s2 : z_Sb h 213 lc fl v2) (a1 : v1 = 212 ∨ 215 ≤ v1) (a2 : v2 = 214 ∨ 215 ≤ v2) (a3 : v1 ≠ v2) (t : z_Sb h1 211 ic' fi' v') (hv : v' = v1 ∨ h.1 ≤ v') (pp : q_two h h1 211 v1) (hl : ic' ≤ 60) : z_Sbs h1 b ic' fi' lc fl ∧ q_zone h h1 211 4 := by
  have a4 := s.s0
  have l2 := s2.vlt
  refine ⟨⟨v', v2, t, s2.keep2 pp (by omega), by omega, a2, by omega, Nat.le_trans a4 pp.1, hl, s.blc⟩, pp.1, fun i hi hx => pp.2 i (by omega) (by omega) (by omega), fun i h3 h4 n => ?_⟩
  have o2 : i ≠ v1 := fun e => n (by
    subst e
    obtain ⟨ml, cap, bs, u1, -⟩ := s1
    exact ⟨_, _, Or.inl u1.c0⟩)
  refine ⟨pp.2 i h4 (by omega) o2, ?_⟩
  rintro ⟨c, fs, e | e⟩
  · obtain ⟨ml, cap, bs, u1, -⟩ := t
    have e3 := u1.c0.symm.trans e
    injection e3 with e3
    injection e3 with e3
    injection e3 with e4 e5
    injection e5 with e6 e7
    injection e6 with e8
    have e8 : (v' : Nat) = i := e8
    omega
  · exact n ⟨c, fs, Or.inr ((pp.2 213 (by omega) (by omega) (by omega)).symm.trans e)⟩
end SBS
theorem q_Spec_mono {g : q_G} {M : q_M} {d mc ms : Nat} {as : List Value} {h : q_H} {Q Q' : q_O → q_H → Prop} (s : q_Spec g M d mc ms as h Q) (hQ : ∀ o h1, Q o h1 → Q' o h1) : q_Spec g M d mc ms as h Q' := by
  intro p e hadm hf hc s0 m args below hfr hS hP hK
  obtain ⟨n, o, h1, h2, h3, h4⟩ := s p e hadm hf hc s0 m args below hfr hS hP hK
  refine ⟨n, o, h1, h2, h3, ?_⟩
  rcases h4 with ⟨⟨v, h', e1, hq, r⟩, L⟩ | ⟨q, eo, hx⟩
  · exact Or.inl ⟨⟨v, h', e1, hQ _ _ hq, r⟩, L⟩
  · refine Or.inr ⟨q, eo, ?_⟩
    obtain ⟨E, ce, L, ⟨h', hq, r1⟩, r2⟩ := hx
    exact ⟨E, ce, L, ⟨h', hQ _ _ hq, r1⟩, r2⟩
theorem q_chgI {g : q_G} {M : q_M} {d mc ms : Nat} {as : List Value} {h : q_H} {o : q_O} {B C : q_H → Prop} (s : q_Spec g M d mc ms as h (q_chg o B)) (hBC : ∀ h1, B h1 → C h1) : q_Spec g M d mc ms as h (q_chg o C) := by
  refine q_Spec_mono s (fun o1 h1 => ?_)
  rintro ⟨e, q⟩
  exact ⟨e, hBC h1 q⟩
theorem e_lineC {g : q_G} {h : q_H} {d b ic lc : Nat} {fi fl : Nat → Int32} (s : z_Sbs h b ic fi lc fl) {x : Int32} (hx : z_lat x) (hl : lc + 1 ≤ 142) (hd : 6 ≤ d) : q_Spec g mJ4_append_cf468 d 1 286 [.ref 213, .int x] h (q_chg (.inl (some (.ref 213))) (fun h1 => z_Sbs h1 b ic fi (lc + 1) (upd fl lc x) ∧ q_zone h h1 211 4)) := by
  have s' := s
  have hb1 := s.bic
  have hb2 := s.blc
  obtain ⟨v1, v2, s1, s2, a1, a2, a3, -⟩ := s'
  refine q_chgI (e_appC s2 hx (by omega) hd) (fun h1 hB => ?_)
  obtain ⟨v', t, hv, pp⟩ := hB
  exact s.ofl s1 s2 a1 a2 a3 t hv pp (by omega)
theorem e_inputC {g : q_G} {h : q_H} {d b ic lc : Nat} {fi fl : Nat → Int32} (s : z_Sbs h b ic fi lc fl) {x : Int32} (hx : z_lat x) (hl : ic + 1 ≤ 60) (hd : 6 ≤ d) : q_Spec g mJ4_append_cf468 d 1 286 [.ref 211, .int x] h (q_chg (.inl (some (.ref 211))) (fun h1 => z_Sbs h1 b (ic + 1) (upd fi ic x) lc fl ∧ q_zone h h1 211 4)) := by
  have s' := s
  have hb1 := s.bic
  have hb2 := s.blc
  obtain ⟨v1, v2, s1, s2, a1, a2, a3, -⟩ := s'
  refine q_chgI (e_appC s1 hx (by omega) hd) (fun h1 hB => ?_)
  obtain ⟨v', t, hv, pp⟩ := hB
  exact s.ofi s1 s2 a1 a2 a3 t hv pp (by omega)
theorem e_lineI {g : q_G} {h : q_H} {d b ic lc : Nat} {fi fl : Nat → Int32} (s : z_Sbs h b ic fi lc fl) {x : Int32} (hx : ∃ m : Nat, m < 10000 ∧ x = nI m) (hl : lc + sb_dg x.toNatClampNeg ≤ 142) (hd : 6 ≤ d) : q_Spec g mJ4_append_bf812 d 1 286 [.ref 213, .int x] h (q_chg (.inl (some (.ref 213))) (fun h1 => z_Sbs h1 b ic fi (lc + sb_dg x.toNatClampNeg) (x_num fl lc x.toNatClampNeg) ∧ q_zone h h1 211 4)) := by
  have s' := s
  have hb1 := s.bic
  have hb2 := s.blc
  obtain ⟨v1, v2, s1, s2, a1, a2, a3, -⟩ := s'
  obtain ⟨m, hm, rfl⟩ := hx
  rw [nI_clamp (by omega)] at hl ⊢
  refine q_chgI (e_appI s2 hm (by omega) hd) (fun h1 hB => ?_)
  obtain ⟨v', t, hv, pp⟩ := hB
  exact s.ofl s1 s2 a1 a2 a3 t hv pp (by omega)
theorem e_line0 {g : q_G} {h : q_H} {d b ic lc : Nat} {fi fl : Nat → Int32} (s : z_Sbs h b ic fi lc fl)  (hd : 6 ≤ d) : q_Spec g mJ4_setLength_d00df d 1 286 [.ref 213, .int 0] h (q_chg (.inl none) (fun h1 => z_Sbs h1 b ic fi 0 fl ∧ q_zone h h1 211 4)) := by
  have s' := s
  have hb1 := s.bic
  have hb2 := s.blc
  obtain ⟨v1, v2, s1, s2, a1, a2, a3, -⟩ := s'
  refine q_chgI (e_setLen s2 hd) (fun h1 hB => ?_)
  obtain ⟨t, pp⟩ := hB
  exact s.ofl s1 s2 a1 a2 a3 t (Or.inl rfl) pp (by omega)
theorem e_input0 {g : q_G} {h : q_H} {d b ic lc : Nat} {fi fl : Nat → Int32} (s : z_Sbs h b ic fi lc fl)  (hd : 6 ≤ d) : q_Spec g mJ4_setLength_d00df d 1 286 [.ref 211, .int 0] h (q_chg (.inl none) (fun h1 => z_Sbs h1 b 0 fi lc fl ∧ q_zone h h1 211 4)) := by
  have s' := s
  have hb1 := s.bic
  have hb2 := s.blc
  obtain ⟨v1, v2, s1, s2, a1, a2, a3, -⟩ := s'
  refine q_chgI (e_setLen s1 hd) (fun h1 hB => ?_)
  obtain ⟨t, pp⟩ := hB
  exact s.ofi s1 s2 a1 a2 a3 t (Or.inl rfl) pp (by omega)
theorem e_lineLen {g : q_G} {h : q_H} {d b ic lc : Nat} {fi fl : Nat → Int32} (s : z_Sbs h b ic fi lc fl) (hd : 1 ≤ d) : q_Spec g mJ4_length_8abf5 d 0 0 [.ref 213] h (q_ret (some (.int (nI lc))) h) := by
  obtain ⟨v1, v2, s1, s2, -⟩ := s
  exact e_sbLen s2 hd
theorem e_inputLen {g : q_G} {h : q_H} {d b ic lc : Nat} {fi fl : Nat → Int32} (s : z_Sbs h b ic fi lc fl) (hd : 1 ≤ d) : q_Spec g mJ4_length_8abf5 d 0 0 [.ref 211] h (q_ret (some (.int (nI ic))) h) := by
  obtain ⟨v1, v2, s1, s2, -⟩ := s
  exact e_sbLen s1 hd
theorem e_lineAt {g : q_G} {h : q_H} {d b ic lc : Nat} {fi fl : Nat → Int32} (s : z_Sbs h b ic fi lc fl) {x : Int32} (h1 : ¬ x < 0) (h2 : x < nI lc) (hd : 3 ≤ d) : q_Spec g mJ4_charAt_5068e d 0 0 [.ref 213, .int x] h (q_ret (some (.int (fl x.toNatClampNeg))) h) := by
  have hb := s.blc
  obtain ⟨v1, v2, s1, s2, -⟩ := s
  obtain ⟨j, hj, rfl⟩ := nI_of h1
  rw [nI_clamp hj]
  exact e_charAt s2 ((nI_ltI hj (by omega)).mp h2) hd
theorem z_lineAt_nar {h : q_H} {b ic lc : Nat} {fi fl : Nat → Int32} (s : z_Sbs h b ic fi lc fl) {x : Int32} (h1 : ¬ x < 0) (h2 : x < nI lc) : narrow .char (.int (fl x.toNatClampNeg)) = .int (fl x.toNatClampNeg) := by
  have hb := s.blc
  obtain ⟨j, hj, rfl⟩ := nI_of h1
  rw [nI_clamp hj]
  exact z_lat_char (s.latl ((nI_ltI hj (by omega)).mp h2))
theorem z_dg4 {x : Int32} (hx : ∃ m : Nat, m < 10000 ∧ x = nI m) : sb_dg x.toNatClampNeg ≤ 4 := by
  obtain ⟨m, hm, rfl⟩ := hx
  rw [nI_clamp (by omega), z_dg hm]
  repeat (first | omega | split)
theorem z_letter_lat (ac rj : Int32) (j : Nat) : z_lat (x_lb_letter ac rj j) := by
  unfold x_lb_letter
  split
  · exact z_latN (c := 97) (by omega)
  · split
    · exact z_latN (c := 114) (by omega)
    · exact z_latN (c := 117) (by omega)
def x_am_lineChar (lc : Nat) (fl : Nat → Int32) (xp : Int32) : Int32 ⊕ String := (if (xp) < (0) then .inr "java/lang/IndexOutOfBoundsException" else (if (xp) < (nI (lc)) then .inl (fl (xp).toNatClampNeg) else .inr "java/lang/IndexOutOfBoundsException"))
set_option maxRecDepth 100000 in
set_option maxHeartbeats 8000000 in
theorem e_am_lineChar {g : q_G} {h : q_H} {d : Nat} {hs : Bool} {se : Int32} {sf : Int32} (sam : z_Am h 100 hs se sf) {ic : Nat} {fi : Nat → Int32} {lc : Nat} {fl : Nat → Int32} (ssb : z_Sbs h 211 ic fi lc fl)  (xp : Int32)   (hd : 7 ≤ d) : q_Spec g mX10_lineChar d 1 6 [.ref (100), .int (xp)] h (q_out (q_oI (x_am_lineChar lc fl xp)) h) := by
  have hb_sb_ic := ssb.bic
  have hb_sb_lc := ssb.blc
  have ho_sb_ic := ssb.bic
  have ho_sb_lc := ssb.blc
  refine q_enter (by decide +kernel) rfl rfl (Nat.le_of_ble_eq_true rfl) (fun hz => ?_)
  change q_W _ _ _ _ _ _ _ _ _ [.ref (100), .int (xp)] [] _
  refine q_iload_n dX10_lineChar_0 rfl ?_
  refine q_if_lt 15 dX10_lineChar_1 (by decide) (fun b1 => ?_) (fun b1 => ?_)
  · have hE : x_am_lineChar lc fl xp = .inr "java/lang/IndexOutOfBoundsException" := by simp only [x_am_lineChar, if_pos b1]
    rw [hE]
    refine q_throwW kE_X10_128 kR_X10_324 rfl dX10_lineChar_15 dX10_lineChar_18 dX10_lineChar_19 dX10_lineChar_22 dX10_lineChar_25 (Nat.le_of_ble_eq_true rfl) (by omega) (by omega) (by omega) ?_
    exact q_xout rfl ⟨rfl, rfl⟩ (by omega) (by omega)
  · refine q_iload_n dX10_lineChar_4 rfl ?_
    refine q_aload_n (by first | assumption | omega | decide | (rw [q_R0e]; omega)) dX10_lineChar_5 rfl ?_
    refine q_getf (k := 9) (v := .ref (213)) kC_X10 kL_X10_64 rfl (by decide) dX10_lineChar_6 sam.c0 rfl ?_
    obtain ⟨fs9, hc9⟩ := ssb.celll
    refine q_invV (mc' := 0) (ms' := 0) (d' := d - 1) (as := []) dX10_lineChar_9 kM_J4_length_8abf5 kL_X10_315 kI_J4_length_8abf5 kS_J4_length_8abf5 rfl (kC_J4.1) hc9 rfl rfl (Nat.le_of_ble_eq_true rfl) (by omega) (by decide) (by omega) (by omega) (e_lineLen (d := d - 1) ssb (by omega)) (q_kR ?_) q_xR
    change q_W _ _ _ _ _ _ _ _ 12 [.ref (100), .int (xp)] [.int (nI (lc)), .int (xp)] _
    refine q_icmp_lt 26 dX10_lineChar_12 (by decide) (fun b12 => ?_) (fun b12 => ?_)
    · refine q_aload_n (by first | assumption | omega | decide | (rw [q_R0e]; omega)) dX10_lineChar_26 rfl ?_
      refine q_getf (k := 9) (v := .ref (213)) kC_X10 kL_X10_64 rfl (by decide) dX10_lineChar_27 sam.c0 rfl ?_
      refine q_iload_n dX10_lineChar_30 rfl ?_
      obtain ⟨fs9, hc9⟩ := ssb.celll
      refine q_invV (mc' := 0) (ms' := 0) (d' := d - 1) (as := [.int (xp)]) dX10_lineChar_31 kM_J4_charAt_5068e kL_X10_326 kI_J4_charAt_5068e kS_J4_charAt_5068e rfl (kC_J4.1) hc9 rfl rfl (Nat.le_of_ble_eq_true rfl) (by omega) (by decide) (by omega) (by omega) (e_lineAt (d := d - 1) ssb b1 b12 (by omega)) (q_kR ?_) q_xR
      change q_W _ _ _ _ _ _ _ _ 34 [.ref (100), .int (xp)] [.int (fl (xp).toNatClampNeg)] _
      have hE : x_am_lineChar lc fl xp = .inl (fl (xp).toNatClampNeg) := by simp only [x_am_lineChar, if_neg b1, if_pos b12]
      rw [hE]
      exact q_ireturn dX10_lineChar_34 rfl (z_lineAt_nar ssb b1 b12) (by omega) (by omega) ⟨rfl, rfl⟩
    · have hE : x_am_lineChar lc fl xp = .inr "java/lang/IndexOutOfBoundsException" := by simp only [x_am_lineChar, if_neg b1, if_neg b12]
      rw [hE]
      refine q_throwW kE_X10_128 kR_X10_324 rfl dX10_lineChar_15 dX10_lineChar_18 dX10_lineChar_19 dX10_lineChar_22 dX10_lineChar_25 (Nat.le_of_ble_eq_true rfl) (by omega) (by omega) (by omega) ?_
      exact q_xout rfl ⟨rfl, rfl⟩ (by omega) (by omega)
def x_am_append (ic : Nat) (fi : Nat → Int32) (xc : Int32) : (Int32 ⊕ String) × (Nat) × (Nat → Int32) := (if (xc) < (32) then (.inr "java/lang/IllegalArgumentException", ic, fi) else (if (xc) ≤ (126) then (if ic < 60 then (.inl (nI (ic + 1)), ic + 1, upd fi ic (xc)) else (.inr "java/lang/IllegalStateException", ic, fi)) else (.inr "java/lang/IllegalArgumentException", ic, fi)))
def x_am_formatArgument_93 (id : Nat → Int32) (att : Nat → Int32) (v1 : Nat) : Nat → Nat → (Nat → Int32) → (Nat) → (Nat → Int32) × (Nat)
  | 0, _, fl_93, lc_93 => (fl_93, lc_93)
  | r + 1, k, fl_93, lc_93 => (if z_has (att v1) k then x_am_formatArgument_93 id att v1 r (k + 1) (x_num (upd fl_93 lc_93 (60)) (lc_93 + 1) ((id k).toNatClampNeg)) (lc_93 + 1 + sb_dg ((id k).toNatClampNeg)) else x_am_formatArgument_93 id att v1 r (k + 1) fl_93 lc_93)
set_option maxRecDepth 100000 in
set_option maxHeartbeats 8000000 in
theorem l_am_formatArgument_93 {g : q_G} {h : q_H} {d mc ms kc ks : Nat} {Q : q_O → q_H → Prop} {hs : Bool} {se : Int32} {sf : Int32} {n : Nat} {id : Nat → Int32} {wt : Nat → Int32} {ag : Nat → Int32} {tg : Nat → Int32} {att : Nat → Int32} {ni : Int32} {dy : Int32} {mn : Nat} {mv : Nat → Int32} {en : Int32} {wo : Int32} {br : Int32} {won : Nat → Int32} {lost : Nat → Int32} {pf : Nat → Int32} {cv : Nat → Int32} {sc : Nat} {pc : Nat} {pp : Nat} {po : Int32} {vb : Nat → Int32} {oa : Nat → Int32} {ob : Nat → Int32} {ic : Nat} {fi : Nat → Int32} {v1 : Nat} {y3_ac : Int32} {y3_rj : Int32} {y3_ro : Nat → Int32}   (hnid : ∀ j, j < n → ∃ m : Nat, m < 10000 ∧ id j = nI m) (hnwt : ∀ j, j < n → ∃ m : Nat, m < 10000 ∧ wt j = nI m) (hnst : ∀ j, j < n → ∃ m : Nat, m < 10000 ∧ x_st_strength wt ag j = nI m) (ho_st_n : n ≤ 8) (ho_st_mn : mn ≤ 12) (ho_ex_sc : sc ≤ 256) (ho_pr_pc : pc ≤ 16) (ho_pr_pp : pp ≤ 60) (ho_sb_ic : ic ≤ 60) (hz9 : 215 ≤ h.1) (f1 : v1 < n) (g9 : sb_dg ((x_st_strength wt ag v1).toNatClampNeg) ≤ 4) (g12 : sb_dg ((wt v1).toNatClampNeg) ≤ 4)  (hd : 7 ≤ d) (hkc : kc + 16 ≤ mc) (hks : ks + 4576 ≤ ms) : ∀ (r k : Nat) (fl_93 : Nat → Int32) (lc_93 : Nat) (hh : q_H) (sam_93 : z_Am hh 100 hs se sf) (sst_93 : z_S2 hh 101 n id wt ag tg att ni dy mn mv en wo br) (slb_93 : z_Lb hh 199 y3_ac y3_rj y3_ro) (sga_93 : z_Ga hh 201 won lost) (sex_93 : z_Ex hh 204 pf cv sc) (spr_93 : z_Pr hh 207 pc pp po vb oa ob) (ssb_93 : z_Sbs hh 211 ic fi lc_93 fl_93) (pH : q_zone h hh 199 16) (hk_93 : k + r = n) (hn_lc_93 : lc_93 ≤ 21 + 5 * k) (K : ∀ (r93_0 : Nat → Int32) (r93_1 : Nat), x_am_formatArgument_93 id att v1 r k fl_93 lc_93 = (r93_0, r93_1) → r93_1 ≤ 21 + 5 * n → ∀ h2, z_Am h2 100 hs se sf → z_S2 h2 101 n id wt ag tg att ni dy mn mv en wo br → z_Lb h2 199 y3_ac y3_rj y3_ro → z_Ga h2 201 won lost → z_Ex h2 204 pf cv sc → z_Pr h2 207 pc pp po vb oa ob → z_Sbs h2 211 ic fi r93_1 r93_0 → q_zone h h2 199 16 → q_W g mX10_formatArgument d mc ms Q (kc + 16) (ks + 4576) 148 [.ref (100), q_u, q_u, q_u] [] h2), q_W g mX10_formatArgument d mc ms Q (kc + 2 * k) (ks + 572 * k) 93 [.ref (100), q_u, .int (nI (v1)), .int (nI (k))] [] hh := by
  intro r
  induction r with
  | zero =>
    intro k fl_93 lc_93 hh sam_93 sst_93 slb_93 sga_93 sex_93 spr_93 ssb_93 pH hk_93 hn_lc_93 K
    have hb_st_n := sst_93.bn
    have hb_st_mn := sst_93.bmn
    have hb_ex_sc := sex_93.bsc
    have hb_pr_pc := spr_93.bpc
    have hb_pr_pp := spr_93.bpp
    have hb_sb_ic := ssb_93.bic
    have hb_sb_lc := ssb_93.blc
    refine q_iload_n dX10_formatArgument_93 rfl ?_
    refine q_aload_n (by first | assumption | omega | decide | (rw [q_R0e]; omega)) dX10_formatArgument_94 rfl ?_
    refine q_getf (k := 0) (v := .ref (101)) kC_X10 kL_X10_12 rfl (by decide) dX10_formatArgument_95 sam_93.c0 rfl ?_
    refine q_getf (k := 6) (v := .int (nI (n))) kC_X8 kL_X10_121 rfl (by decide) dX10_formatArgument_98 sst_93.c0 rfl ?_
    refine q_icmp_ge 148 dX10_formatArgument_101 (by decide) (fun b101 => ?_) (fun b101 => ?_)
    · have b101 := (nI_leI (a := n) (b := k) (by omega) (by omega)).mp b101
      refine q_forget 2 ?_
      refine q_forget 3 ?_
      change q_W _ _ _ _ _ _ _ _ _ [.ref (100), q_u, q_u, q_u] [] _
      refine q_widen (kc' := kc + 16) (ks' := ks + 4576) (by omega) (by omega) ?_
      exact K fl_93 lc_93 (by simp only [x_am_formatArgument_93]) (by omega) hh sam_93 sst_93 slb_93 sga_93 sex_93 spr_93 ssb_93 pH
    · have b101 : ¬ (n ≤ k) := fun q => b101 ((nI_leI (a := n) (b := k) (by omega) (by omega)).mpr q)
      exact absurd b101 (by omega)
  | succ r ih =>
    intro k fl_93 lc_93 hh sam_93 sst_93 slb_93 sga_93 sex_93 spr_93 ssb_93 pH hk_93 hn_lc_93 K
    have hb_st_n := sst_93.bn
    have hb_st_mn := sst_93.bmn
    have hb_ex_sc := sex_93.bsc
    have hb_pr_pc := spr_93.bpc
    have hb_pr_pp := spr_93.bpp
    have hb_sb_ic := ssb_93.bic
    have hb_sb_lc := ssb_93.blc
    refine q_iload_n dX10_formatArgument_93 rfl ?_
    refine q_aload_n (by first | assumption | omega | decide | (rw [q_R0e]; omega)) dX10_formatArgument_94 rfl ?_
    refine q_getf (k := 0) (v := .ref (101)) kC_X10 kL_X10_12 rfl (by decide) dX10_formatArgument_95 sam_93.c0 rfl ?_
    refine q_getf (k := 6) (v := .int (nI (n))) kC_X8 kL_X10_121 rfl (by decide) dX10_formatArgument_98 sst_93.c0 rfl ?_
    refine q_icmp_ge 148 dX10_formatArgument_101 (by decide) (fun b101 => ?_) (fun b101 => ?_)
    · have b101 := (nI_leI (a := n) (b := k) (by omega) (by omega)).mp b101
      exact absurd b101 (by omega)
    · have b101 : ¬ (n ≤ k) := fun q => b101 ((nI_leI (a := n) (b := k) (by omega) (by omega)).mpr q)
      refine q_aload_n (by first | assumption | omega | decide | (rw [q_R0e]; omega)) dX10_formatArgument_104 rfl ?_
      refine q_getf (k := 0) (v := .ref (101)) kC_X10 kL_X10_12 rfl (by decide) dX10_formatArgument_105 sam_93.c0 rfl ?_
      refine q_getf (k := 4) (v := .ref (106)) kC_X8 kL_X10_164 rfl (by decide) dX10_formatArgument_108 sst_93.c0 rfl ?_
      refine q_iload_n dX10_formatArgument_111 rfl ?_
      refine q_ialdN (j := v1) (f := att) dX10_formatArgument_112 sst_93.c5 (by omega) (by decide) ?_
      change q_W _ _ _ _ _ _ _ _ _ _ [.int (att v1)] _
      refine q_iload_n dX10_formatArgument_113 rfl ?_
      refine q_invS (mc' := 0) (ms' := 0) (d' := d - 1) (as := [.int (att v1), .int (nI (k))]) dX10_formatArgument_114 kM_X10_has kL_X10_155 kT_X10_has rfl rfl rfl (Nat.le_of_ble_eq_true rfl) (by omega) (by decide) (by omega) (by omega) (e_has (d := d - 1)) (q_kR ?_) q_xR
      change q_W _ _ _ _ _ _ _ _ 117 [.ref (100), q_u, .int (nI (v1)), .int (nI (k))] [.int (z_b (z_has (att v1) k))] _
      refine q_if_eq 142 dX10_formatArgument_117 (by decide) (fun b117 => ?_) (fun b117 => ?_)
      · have b117 := z_b0n b117
        refine q_iinc (x := nI (k)) (v := nI (k + 1)) dX10_formatArgument_142 rfl (nI_add _ 1) rfl ?_
        change q_W _ _ _ _ _ _ _ _ _ [.ref (100), q_u, .int (nI (v1)), .int (nI (k + 1))] [] _
        refine q_goto 93 dX10_formatArgument_145 (by decide) ?_
        change q_W _ _ _ _ _ _ _ _ _ [.ref (100), q_u, .int (nI (v1)), .int (nI (k + 1))] [] _
        refine q_widen (kc' := kc + 2 * (k + 1)) (ks' := ks + 572 * (k + 1)) (by omega) (by omega) ?_
        exact ih (k + 1) fl_93 lc_93 hh sam_93 sst_93 slb_93 sga_93 sex_93 spr_93 ssb_93 pH (by omega) (by first | omega | (split <;> omega)) (fun r93_0 r93_1 e9 => K r93_0 r93_1 (by simp only [x_am_formatArgument_93, if_neg b117]; exact e9))
      · have b117 := z_b1 b117
        refine q_aload_n (by first | assumption | omega | decide | (rw [q_R0e]; omega)) dX10_formatArgument_120 rfl ?_
        refine q_getf (k := 9) (v := .ref (213)) kC_X10 kL_X10_64 rfl (by decide) dX10_formatArgument_121 sam_93.c0 rfl ?_
        refine q_bipush (v := 60) dX10_formatArgument_124 rfl ?_
        obtain ⟨fs9, hc9⟩ := ssb_93.celll
        refine q_invV (mc' := 1) (ms' := 286) (d' := d - 1) (as := [.int (60)]) dX10_formatArgument_126 kM_J4_append_cf468 kL_X10_312 kI_J4_append_cf468 kS_J4_append_cf468 rfl (kC_J4.1) hc9 rfl rfl (Nat.le_of_ble_eq_true rfl) (by omega) (by decide) (by omega) (by omega) (e_lineC (d := d - 1) ssb_93 (z_latN (c := 60) (by omega)) (by omega) (by omega)) (q_kC (fun h16 hB => ?_)) q_xC
        obtain ⟨t16_0, pp16⟩ := hB
        have ssb16 : z_Sbs h16 211 ic fi (lc_93 + 1) (upd fl_93 lc_93 (60)) := t16_0
        have sam16 := sam_93.keepZ pp16 (by omega)
        have sst16 := sst_93.keepZ pp16 (by omega)
        have slb16 := slb_93.keepZ pp16 (by omega)
        have sga16 := sga_93.keepZ pp16 (by omega)
        have sex16 := sex_93.keepZ pp16 (by omega)
        have spr16 := spr_93.keepZ pp16 (by omega)
        have p16 := pH.trans (pp16.wide (by omega) (by omega))
        have hb_sb_ic := ssb16.bic
        have hb_sb_lc := ssb16.blc
        change q_W _ _ _ _ _ _ _ _ 129 [.ref (100), q_u, .int (nI (v1)), .int (nI (k))] [.ref (213)] _
        refine q_aload_n (by first | assumption | omega | decide | (rw [q_R0e]; omega)) dX10_formatArgument_129 rfl ?_
        refine q_getf (k := 0) (v := .ref (101)) kC_X10 kL_X10_12 rfl (by decide) dX10_formatArgument_130 sam16.c0 rfl ?_
        refine q_getf (k := 0) (v := .ref (102)) kC_X8 kL_X10_131 rfl (by decide) dX10_formatArgument_133 sst16.c0 rfl ?_
        refine q_iload_n dX10_formatArgument_136 rfl ?_
        refine q_ialdN (j := k) (f := id) dX10_formatArgument_137 sst16.c1 (by omega) (by decide) ?_
        change q_W _ _ _ _ _ _ _ _ _ _ [.int (id k), .ref (213)] _
        have g17 := z_dg4 (x := id k) (hnid _ (by omega))
        obtain ⟨fs9, hc9⟩ := ssb16.celll
        refine q_invV (mc' := 1) (ms' := 286) (d' := d - 1) (as := [.int (id k)]) dX10_formatArgument_138 kM_J4_append_bf812 kL_X10_308 kI_J4_append_bf812 kS_J4_append_bf812 rfl (kC_J4.1) hc9 rfl rfl (Nat.le_of_ble_eq_true rfl) (by omega) (by decide) (by omega) (by omega) (e_lineI (d := d - 1) ssb16 (hnid _ (by omega)) (by omega) (by omega)) (q_kC (fun h18 hB => ?_)) q_xC
        obtain ⟨t18_0, pp18⟩ := hB
        have ssb18 : z_Sbs h18 211 ic fi (lc_93 + 1 + sb_dg ((id k).toNatClampNeg)) (x_num (upd fl_93 lc_93 (60)) (lc_93 + 1) ((id k).toNatClampNeg)) := t18_0
        have sam18 := sam16.keepZ pp18 (by omega)
        have sst18 := sst16.keepZ pp18 (by omega)
        have slb18 := slb16.keepZ pp18 (by omega)
        have sga18 := sga16.keepZ pp18 (by omega)
        have sex18 := sex16.keepZ pp18 (by omega)
        have spr18 := spr16.keepZ pp18 (by omega)
        have p18 := p16.trans (pp18.wide (by omega) (by omega))
        have hb_sb_ic := ssb18.bic
        have hb_sb_lc := ssb18.blc
        change q_W _ _ _ _ _ _ _ _ 141 [.ref (100), q_u, .int (nI (v1)), .int (nI (k))] [.ref (213)] _
        refine q_pop dX10_formatArgument_141 rfl ?_
        refine q_iinc (x := nI (k)) (v := nI (k + 1)) dX10_formatArgument_142 rfl (nI_add _ 1) rfl ?_
        change q_W _ _ _ _ _ _ _ _ _ [.ref (100), q_u, .int (nI (v1)), .int (nI (k + 1))] [] _
        refine q_goto 93 dX10_formatArgument_145 (by decide) ?_
        change q_W _ _ _ _ _ _ _ _ _ [.ref (100), q_u, .int (nI (v1)), .int (nI (k + 1))] [] _
        refine q_widen (kc' := kc + 2 * (k + 1)) (ks' := ks + 572 * (k + 1)) (by omega) (by omega) ?_
        exact ih (k + 1) (x_num (upd fl_93 lc_93 (60)) (lc_93 + 1) ((id k).toNatClampNeg)) (lc_93 + 1 + sb_dg ((id k).toNatClampNeg)) h18 sam18 sst18 slb18 sga18 sex18 spr18 ssb18 p18 (by omega) (by first | omega | (split <;> omega)) (fun r93_0 r93_1 e9 => K r93_0 r93_1 (by simp only [x_am_formatArgument_93, if_pos b117]; exact e9))
def x_am_formatArgument (n : Nat) (id : Nat → Int32) (wt : Nat → Int32) (ag : Nat → Int32) (att : Nat → Int32) (ac : Int32) (rj : Int32) (ro : Nat → Int32) (lc : Nat) (fl : Nat → Int32) (xid : Int32) : (Int32 ⊕ String) × (Int32) × (Int32) × (Nat → Int32) × (Nat) × (Nat → Int32) := (match x_st_slotOfKnown n id xid with | (.inl v1) => (match x_lb_give ro n att with | (y3_ac, y3_rj, y3_ro) => (match x_am_formatArgument_93 id att v1 n 0 (upd (upd (x_num (upd (x_num (upd (x_num fl 0 ((xid).toNatClampNeg)) (0 + sb_dg ((xid).toNatClampNeg)) (40)) (0 + sb_dg ((xid).toNatClampNeg) + 1) ((x_st_strength wt ag v1).toNatClampNeg)) (0 + sb_dg ((xid).toNatClampNeg) + 1 + sb_dg ((x_st_strength wt ag v1).toNatClampNeg)) (47)) (0 + sb_dg ((xid).toNatClampNeg) + 1 + sb_dg ((x_st_strength wt ag v1).toNatClampNeg) + 1) ((wt v1).toNatClampNeg)) (0 + sb_dg ((xid).toNatClampNeg) + 1 + sb_dg ((x_st_strength wt ag v1).toNatClampNeg) + 1 + sb_dg ((wt v1).toNatClampNeg)) (41)) (0 + sb_dg ((xid).toNatClampNeg) + 1 + sb_dg ((x_st_strength wt ag v1).toNatClampNeg) + 1 + sb_dg ((wt v1).toNatClampNeg) + 1) (x_lb_letter y3_ac y3_rj v1)) (0 + sb_dg ((xid).toNatClampNeg) + 1 + sb_dg ((x_st_strength wt ag v1).toNatClampNeg) + 1 + sb_dg ((wt v1).toNatClampNeg) + 2) with | (a19_0, a19_1) => (.inl (nI (a19_1)), y3_ac, y3_rj, y3_ro, a19_1, a19_0))) | (.inr e1) => (.inr e1, ac, rj, ro, lc, fl))
set_option maxRecDepth 100000 in
set_option maxHeartbeats 8000000 in
theorem e_am_formatArgument {g : q_G} {h : q_H} {d : Nat} {hs : Bool} {se : Int32} {sf : Int32} (sam : z_Am h 100 hs se sf) {n : Nat} {id : Nat → Int32} {wt : Nat → Int32} {ag : Nat → Int32} {tg : Nat → Int32} {att : Nat → Int32} {ni : Int32} {dy : Int32} {mn : Nat} {mv : Nat → Int32} {en : Int32} {wo : Int32} {br : Int32} (sst : z_S2 h 101 n id wt ag tg att ni dy mn mv en wo br) {ac : Int32} {rj : Int32} {ro : Nat → Int32} (slb : z_Lb h 199 ac rj ro) {won : Nat → Int32} {lost : Nat → Int32} (sga : z_Ga h 201 won lost) {pf : Nat → Int32} {cv : Nat → Int32} {sc : Nat} (sex : z_Ex h 204 pf cv sc) {pc : Nat} {pp : Nat} {po : Int32} {vb : Nat → Int32} {oa : Nat → Int32} {ob : Nat → Int32} (spr : z_Pr h 207 pc pp po vb oa ob) {ic : Nat} {fi : Nat → Int32} {lc : Nat} {fl : Nat → Int32} (ssb : z_Sbs h 211 ic fi lc fl)  (xid : Int32) (hnx : ∀ v, x_st_slotOfKnown n id xid = .inl v → ∃ m : Nat, m < 10000 ∧ xid = nI m) (hnid : ∀ j, j < n → ∃ m : Nat, m < 10000 ∧ id j = nI m) (hnwt : ∀ j, j < n → ∃ m : Nat, m < 10000 ∧ wt j = nI m) (hnst : ∀ j, j < n → ∃ m : Nat, m < 10000 ∧ x_st_strength wt ag j = nI m)  (hd : 8 ≤ d) : q_Spec g mX10_formatArgument d 25 6870 [.ref (100), .int (xid)] h (q_chg (q_oI (x_am_formatArgument n id wt ag att ac rj ro lc fl xid).1) (fun h1 => z_Am h1 100 hs se sf ∧ z_S2 h1 101 n id wt ag tg att ni dy mn mv en wo br ∧ z_Lb h1 199 ((x_am_formatArgument n id wt ag att ac rj ro lc fl xid).2.1) ((x_am_formatArgument n id wt ag att ac rj ro lc fl xid).2.2.1) ((x_am_formatArgument n id wt ag att ac rj ro lc fl xid).2.2.2.1) ∧ z_Ga h1 201 won lost ∧ z_Ex h1 204 pf cv sc ∧ z_Pr h1 207 pc pp po vb oa ob ∧ z_Sbs h1 211 ic fi ((x_am_formatArgument n id wt ag att ac rj ro lc fl xid).2.2.2.2.1) ((x_am_formatArgument n id wt ag att ac rj ro lc fl xid).2.2.2.2.2) ∧ q_zone h h1 199 16)) := by
  have hb_st_n := sst.bn
  have hb_st_mn := sst.bmn
  have hb_ex_sc := sex.bsc
  have hb_pr_pc := spr.bpc
  have hb_pr_pp := spr.bpp
  have hb_sb_ic := ssb.bic
  have hb_sb_lc := ssb.blc
  have ho_st_n := sst.bn
  have ho_st_mn := sst.bmn
  have ho_ex_sc := sex.bsc
  have ho_pr_pc := spr.bpc
  have ho_pr_pp := spr.bpp
  have ho_sb_ic := ssb.bic
  have ho_sb_lc := ssb.blc
  have p0 : q_zone h h 199 16 := q_zone.rfl'
  have hz9 := ssb.s0
  refine q_enter (by decide +kernel) rfl rfl (Nat.le_of_ble_eq_true rfl) (fun hz => ?_)
  change q_W _ _ _ _ _ _ _ _ _ [.ref (100), .int (xid), q_u, q_u] [] _
  refine q_aload_n (by first | assumption | omega | decide | (rw [q_R0e]; omega)) dX10_formatArgument_0 rfl ?_
  refine q_getf (k := 0) (v := .ref (101)) kC_X10 kL_X10_12 rfl (by decide) dX10_formatArgument_1 sam.c0 rfl ?_
  refine q_iload_n dX10_formatArgument_4 rfl ?_
  rcases x1 : x_st_slotOfKnown n id xid with v1 | e1
  · have e9 := e_st_slotOfKnown (g := g) (h := h) (d := d - 1) sst xid (by omega)
    rw [x1] at e9
    refine q_invV (mc' := 1) (ms' := 6) (d' := d - 1) (as := [.int (xid)]) dX10_formatArgument_5 kM_X8_slotOfKnown kL_X10_138 kI_X8_slotOfKnown kS_X8_slotOfKnown rfl (kC_X8.1) sst.c0 rfl rfl (Nat.le_of_ble_eq_true rfl) (by omega) (by decide) (by omega) (by omega) (e9) (q_kR ?_) q_xR
    have f1 := z_slot_lt x1
    change q_W _ _ _ _ _ _ _ _ 8 [.ref (100), .int (xid), q_u, q_u] [.int (nI (v1))] _
    refine q_istore_n dX10_formatArgument_8 (by decide) rfl ?_
    change q_W _ _ _ _ _ _ _ _ _ [.ref (100), .int (xid), .int (nI (v1)), q_u] [] _
    refine q_aload_n (by first | assumption | omega | decide | (rw [q_R0e]; omega)) dX10_formatArgument_9 rfl ?_
    refine q_getf (k := 4) (v := .ref (199)) kC_X10 kL_X10_32 rfl (by decide) dX10_formatArgument_10 sam.c0 rfl ?_
    refine q_aload_n (by first | assumption | omega | decide | (rw [q_R0e]; omega)) dX10_formatArgument_13 rfl ?_
    refine q_getf (k := 0) (v := .ref (101)) kC_X10 kL_X10_12 rfl (by decide) dX10_formatArgument_14 sam.c0 rfl ?_
    rcases x3 : x_lb_give ro n att with ⟨y3_ac, y3_rj, y3_ro⟩
    have e9 := e_lb_give (g := g) (h := h) (d := d - 1) slb sst (by omega) (by omega)
    rw [x3] at e9
    refine q_invV (mc' := 0) (ms' := 0) (d' := d - 1) (as := [.ref (101)]) dX10_formatArgument_17 kM_X6_give kL_X10_174 kI_X6_give kS_X6_give rfl (kC_X6.1) slb.c0 rfl rfl (Nat.le_of_ble_eq_true rfl) (by omega) (by decide) (by omega) (by omega) (e9) (q_kC (fun h4 hB => ?_)) q_xC
    obtain ⟨t4_0, t4_1, pp4⟩ := hB
    have slb4 := t4_0
    have sst4 := t4_1
    have sam4 := sam.keep pp4 (by omega)
    have sga4 := sga.keep pp4 (by omega)
    have sex4 := sex.keep pp4 (by omega)
    have spr4 := spr.keep pp4 (by omega)
    have ssb4 := ssb.keep pp4 (by omega)
    have p4 := p0.trans ((pp4.zone (Nat.le_trans hz9 p0.1)).wide (by omega) (by omega))
    change q_W _ _ _ _ _ _ _ _ 20 [.ref (100), .int (xid), .int (nI (v1)), q_u] [] _
    refine q_aload_n (by first | assumption | omega | decide | (rw [q_R0e]; omega)) dX10_formatArgument_20 rfl ?_
    refine q_getf (k := 9) (v := .ref (213)) kC_X10 kL_X10_64 rfl (by decide) dX10_formatArgument_21 sam4.c0 rfl ?_
    refine q_iconst (v := 0) dX10_formatArgument_24 rfl ?_
    obtain ⟨fs9, hc9⟩ := ssb4.celll
    refine q_invV (mc' := 1) (ms' := 286) (d' := d - 1) (as := [.int (0)]) dX10_formatArgument_25 kM_J4_setLength_d00df kL_X10_304 kI_J4_setLength_d00df kS_J4_setLength_d00df rfl (kC_J4.1) hc9 rfl rfl (Nat.le_of_ble_eq_true rfl) (by omega) (by decide) (by omega) (by omega) (e_line0 (d := d - 1) ssb4 (by omega)) (q_kC (fun h5 hB => ?_)) q_xC
    obtain ⟨t5_0, pp5⟩ := hB
    have ssb5 : z_Sbs h5 211 ic fi 0 fl := t5_0
    have sam5 := sam4.keepZ pp5 (by omega)
    have sst5 := sst4.keepZ pp5 (by omega)
    have slb5 := slb4.keepZ pp5 (by omega)
    have sga5 := sga4.keepZ pp5 (by omega)
    have sex5 := sex4.keepZ pp5 (by omega)
    have spr5 := spr4.keepZ pp5 (by omega)
    have p5 := p4.trans (pp5.wide (by omega) (by omega))
    have hb_sb_ic := ssb5.bic
    change q_W _ _ _ _ _ _ _ _ 28 [.ref (100), .int (xid), .int (nI (v1)), q_u] [] _
    refine q_aload_n (by first | assumption | omega | decide | (rw [q_R0e]; omega)) dX10_formatArgument_28 rfl ?_
    refine q_getf (k := 9) (v := .ref (213)) kC_X10 kL_X10_64 rfl (by decide) dX10_formatArgument_29 sam5.c0 rfl ?_
    refine q_iload_n dX10_formatArgument_32 rfl ?_
    have g6 := z_dg4 (x := xid) (hnx _ (by with_reducible assumption))
    obtain ⟨fs9, hc9⟩ := ssb5.celll
    refine q_invV (mc' := 1) (ms' := 286) (d' := d - 1) (as := [.int (xid)]) dX10_formatArgument_33 kM_J4_append_bf812 kL_X10_308 kI_J4_append_bf812 kS_J4_append_bf812 rfl (kC_J4.1) hc9 rfl rfl (Nat.le_of_ble_eq_true rfl) (by omega) (by decide) (by omega) (by omega) (e_lineI (d := d - 1) ssb5 (hnx _ (by with_reducible assumption)) (by omega) (by omega)) (q_kC (fun h7 hB => ?_)) q_xC
    obtain ⟨t7_0, pp7⟩ := hB
    have ssb7 : z_Sbs h7 211 ic fi (0 + sb_dg ((xid).toNatClampNeg)) (x_num fl 0 ((xid).toNatClampNeg)) := t7_0
    have sam7 := sam5.keepZ pp7 (by omega)
    have sst7 := sst5.keepZ pp7 (by omega)
    have slb7 := slb5.keepZ pp7 (by omega)
    have sga7 := sga5.keepZ pp7 (by omega)
    have sex7 := sex5.keepZ pp7 (by omega)
    have spr7 := spr5.keepZ pp7 (by omega)
    have p7 := p5.trans (pp7.wide (by omega) (by omega))
    have hb_sb_ic := ssb7.bic
    have hb_sb_lc := ssb7.blc
    change q_W _ _ _ _ _ _ _ _ 36 [.ref (100), .int (xid), .int (nI (v1)), q_u] [.ref (213)] _
    refine q_bipush (v := 40) dX10_formatArgument_36 rfl ?_
    obtain ⟨fs9, hc9⟩ := ssb7.celll
    refine q_invV (mc' := 1) (ms' := 286) (d' := d - 1) (as := [.int (40)]) dX10_formatArgument_38 kM_J4_append_cf468 kL_X10_312 kI_J4_append_cf468 kS_J4_append_cf468 rfl (kC_J4.1) hc9 rfl rfl (Nat.le_of_ble_eq_true rfl) (by omega) (by decide) (by omega) (by omega) (e_lineC (d := d - 1) ssb7 (z_latN (c := 40) (by omega)) (by omega) (by omega)) (q_kC (fun h8 hB => ?_)) q_xC
    obtain ⟨t8_0, pp8⟩ := hB
    have ssb8 : z_Sbs h8 211 ic fi (0 + sb_dg ((xid).toNatClampNeg) + 1) (upd (x_num fl 0 ((xid).toNatClampNeg)) (0 + sb_dg ((xid).toNatClampNeg)) (40)) := t8_0
    have sam8 := sam7.keepZ pp8 (by omega)
    have sst8 := sst7.keepZ pp8 (by omega)
    have slb8 := slb7.keepZ pp8 (by omega)
    have sga8 := sga7.keepZ pp8 (by omega)
    have sex8 := sex7.keepZ pp8 (by omega)
    have spr8 := spr7.keepZ pp8 (by omega)
    have p8 := p7.trans (pp8.wide (by omega) (by omega))
    have hb_sb_ic := ssb8.bic
    have hb_sb_lc := ssb8.blc
    change q_W _ _ _ _ _ _ _ _ 41 [.ref (100), .int (xid), .int (nI (v1)), q_u] [.ref (213)] _
    refine q_aload_n (by first | assumption | omega | decide | (rw [q_R0e]; omega)) dX10_formatArgument_41 rfl ?_
    refine q_getf (k := 0) (v := .ref (101)) kC_X10 kL_X10_12 rfl (by decide) dX10_formatArgument_42 sam8.c0 rfl ?_
    refine q_iload_n dX10_formatArgument_45 rfl ?_
    refine q_invV (mc' := 0) (ms' := 0) (d' := d - 1) (as := [.int (nI (v1))]) dX10_formatArgument_46 kM_X8_strength kL_X10_145 kI_X8_strength kS_X8_strength rfl (kC_X8.1) sst8.c0 rfl rfl (Nat.le_of_ble_eq_true rfl) (by omega) (by decide) (by omega) (by omega) (e_st_strength (d := d - 1) sst8 v1 (by omega) (by omega)) (q_kR ?_) q_xR
    change q_W _ _ _ _ _ _ _ _ 49 [.ref (100), .int (xid), .int (nI (v1)), q_u] [.int (x_st_strength wt ag v1), .ref (213)] _
    have g9 := z_dg4 (x := x_st_strength wt ag v1) (hnst _ (by omega))
    obtain ⟨fs9, hc9⟩ := ssb8.celll
    refine q_invV (mc' := 1) (ms' := 286) (d' := d - 1) (as := [.int (x_st_strength wt ag v1)]) dX10_formatArgument_49 kM_J4_append_bf812 kL_X10_308 kI_J4_append_bf812 kS_J4_append_bf812 rfl (kC_J4.1) hc9 rfl rfl (Nat.le_of_ble_eq_true rfl) (by omega) (by decide) (by omega) (by omega) (e_lineI (d := d - 1) ssb8 (hnst _ (by omega)) (by omega) (by omega)) (q_kC (fun h10 hB => ?_)) q_xC
    obtain ⟨t10_0, pp10⟩ := hB
    have ssb10 : z_Sbs h10 211 ic fi (0 + sb_dg ((xid).toNatClampNeg) + 1 + sb_dg ((x_st_strength wt ag v1).toNatClampNeg)) (x_num (upd (x_num fl 0 ((xid).toNatClampNeg)) (0 + sb_dg ((xid).toNatClampNeg)) (40)) (0 + sb_dg ((xid).toNatClampNeg) + 1) ((x_st_strength wt ag v1).toNatClampNeg)) := t10_0
    have sam10 := sam8.keepZ pp10 (by omega)
    have sst10 := sst8.keepZ pp10 (by omega)
    have slb10 := slb8.keepZ pp10 (by omega)
    have sga10 := sga8.keepZ pp10 (by omega)
    have sex10 := sex8.keepZ pp10 (by omega)
    have spr10 := spr8.keepZ pp10 (by omega)
    have p10 := p8.trans (pp10.wide (by omega) (by omega))
    have hb_sb_ic := ssb10.bic
    have hb_sb_lc := ssb10.blc
    change q_W _ _ _ _ _ _ _ _ 52 [.ref (100), .int (xid), .int (nI (v1)), q_u] [.ref (213)] _
    refine q_bipush (v := 47) dX10_formatArgument_52 rfl ?_
    obtain ⟨fs9, hc9⟩ := ssb10.celll
    refine q_invV (mc' := 1) (ms' := 286) (d' := d - 1) (as := [.int (47)]) dX10_formatArgument_54 kM_J4_append_cf468 kL_X10_312 kI_J4_append_cf468 kS_J4_append_cf468 rfl (kC_J4.1) hc9 rfl rfl (Nat.le_of_ble_eq_true rfl) (by omega) (by decide) (by omega) (by omega) (e_lineC (d := d - 1) ssb10 (z_latN (c := 47) (by omega)) (by omega) (by omega)) (q_kC (fun h11 hB => ?_)) q_xC
    obtain ⟨t11_0, pp11⟩ := hB
    have ssb11 : z_Sbs h11 211 ic fi (0 + sb_dg ((xid).toNatClampNeg) + 1 + sb_dg ((x_st_strength wt ag v1).toNatClampNeg) + 1) (upd (x_num (upd (x_num fl 0 ((xid).toNatClampNeg)) (0 + sb_dg ((xid).toNatClampNeg)) (40)) (0 + sb_dg ((xid).toNatClampNeg) + 1) ((x_st_strength wt ag v1).toNatClampNeg)) (0 + sb_dg ((xid).toNatClampNeg) + 1 + sb_dg ((x_st_strength wt ag v1).toNatClampNeg)) (47)) := t11_0
    have sam11 := sam10.keepZ pp11 (by omega)
    have sst11 := sst10.keepZ pp11 (by omega)
    have slb11 := slb10.keepZ pp11 (by omega)
    have sga11 := sga10.keepZ pp11 (by omega)
    have sex11 := sex10.keepZ pp11 (by omega)
    have spr11 := spr10.keepZ pp11 (by omega)
    have p11 := p10.trans (pp11.wide (by omega) (by omega))
    have hb_sb_ic := ssb11.bic
    have hb_sb_lc := ssb11.blc
    change q_W _ _ _ _ _ _ _ _ 57 [.ref (100), .int (xid), .int (nI (v1)), q_u] [.ref (213)] _
    refine q_aload_n (by first | assumption | omega | decide | (rw [q_R0e]; omega)) dX10_formatArgument_57 rfl ?_
    refine q_getf (k := 0) (v := .ref (101)) kC_X10 kL_X10_12 rfl (by decide) dX10_formatArgument_58 sam11.c0 rfl ?_
    refine q_getf (k := 1) (v := .ref (103)) kC_X8 kL_X10_135 rfl (by decide) dX10_formatArgument_61 sst11.c0 rfl ?_
    refine q_iload_n dX10_formatArgument_64 rfl ?_
    refine q_ialdN (j := v1) (f := wt) dX10_formatArgument_65 sst11.c2 (by omega) (by decide) ?_
    change q_W _ _ _ _ _ _ _ _ _ _ [.int (wt v1), .ref (213)] _
    have g12 := z_dg4 (x := wt v1) (hnwt _ (by omega))
    obtain ⟨fs9, hc9⟩ := ssb11.celll
    refine q_invV (mc' := 1) (ms' := 286) (d' := d - 1) (as := [.int (wt v1)]) dX10_formatArgument_66 kM_J4_append_bf812 kL_X10_308 kI_J4_append_bf812 kS_J4_append_bf812 rfl (kC_J4.1) hc9 rfl rfl (Nat.le_of_ble_eq_true rfl) (by omega) (by decide) (by omega) (by omega) (e_lineI (d := d - 1) ssb11 (hnwt _ (by omega)) (by omega) (by omega)) (q_kC (fun h13 hB => ?_)) q_xC
    obtain ⟨t13_0, pp13⟩ := hB
    have ssb13 : z_Sbs h13 211 ic fi (0 + sb_dg ((xid).toNatClampNeg) + 1 + sb_dg ((x_st_strength wt ag v1).toNatClampNeg) + 1 + sb_dg ((wt v1).toNatClampNeg)) (x_num (upd (x_num (upd (x_num fl 0 ((xid).toNatClampNeg)) (0 + sb_dg ((xid).toNatClampNeg)) (40)) (0 + sb_dg ((xid).toNatClampNeg) + 1) ((x_st_strength wt ag v1).toNatClampNeg)) (0 + sb_dg ((xid).toNatClampNeg) + 1 + sb_dg ((x_st_strength wt ag v1).toNatClampNeg)) (47)) (0 + sb_dg ((xid).toNatClampNeg) + 1 + sb_dg ((x_st_strength wt ag v1).toNatClampNeg) + 1) ((wt v1).toNatClampNeg)) := t13_0
    have sam13 := sam11.keepZ pp13 (by omega)
    have sst13 := sst11.keepZ pp13 (by omega)
    have slb13 := slb11.keepZ pp13 (by omega)
    have sga13 := sga11.keepZ pp13 (by omega)
    have sex13 := sex11.keepZ pp13 (by omega)
    have spr13 := spr11.keepZ pp13 (by omega)
    have p13 := p11.trans (pp13.wide (by omega) (by omega))
    have hb_sb_ic := ssb13.bic
    have hb_sb_lc := ssb13.blc
    change q_W _ _ _ _ _ _ _ _ 69 [.ref (100), .int (xid), .int (nI (v1)), q_u] [.ref (213)] _
    refine q_bipush (v := 41) dX10_formatArgument_69 rfl ?_
    obtain ⟨fs9, hc9⟩ := ssb13.celll
    refine q_invV (mc' := 1) (ms' := 286) (d' := d - 1) (as := [.int (41)]) dX10_formatArgument_71 kM_J4_append_cf468 kL_X10_312 kI_J4_append_cf468 kS_J4_append_cf468 rfl (kC_J4.1) hc9 rfl rfl (Nat.le_of_ble_eq_true rfl) (by omega) (by decide) (by omega) (by omega) (e_lineC (d := d - 1) ssb13 (z_latN (c := 41) (by omega)) (by omega) (by omega)) (q_kC (fun h14 hB => ?_)) q_xC
    obtain ⟨t14_0, pp14⟩ := hB
    have ssb14 : z_Sbs h14 211 ic fi (0 + sb_dg ((xid).toNatClampNeg) + 1 + sb_dg ((x_st_strength wt ag v1).toNatClampNeg) + 1 + sb_dg ((wt v1).toNatClampNeg) + 1) (upd (x_num (upd (x_num (upd (x_num fl 0 ((xid).toNatClampNeg)) (0 + sb_dg ((xid).toNatClampNeg)) (40)) (0 + sb_dg ((xid).toNatClampNeg) + 1) ((x_st_strength wt ag v1).toNatClampNeg)) (0 + sb_dg ((xid).toNatClampNeg) + 1 + sb_dg ((x_st_strength wt ag v1).toNatClampNeg)) (47)) (0 + sb_dg ((xid).toNatClampNeg) + 1 + sb_dg ((x_st_strength wt ag v1).toNatClampNeg) + 1) ((wt v1).toNatClampNeg)) (0 + sb_dg ((xid).toNatClampNeg) + 1 + sb_dg ((x_st_strength wt ag v1).toNatClampNeg) + 1 + sb_dg ((wt v1).toNatClampNeg)) (41)) := t14_0
    have sam14 := sam13.keepZ pp14 (by omega)
    have sst14 := sst13.keepZ pp14 (by omega)
    have slb14 := slb13.keepZ pp14 (by omega)
    have sga14 := sga13.keepZ pp14 (by omega)
    have sex14 := sex13.keepZ pp14 (by omega)
    have spr14 := spr13.keepZ pp14 (by omega)
    have p14 := p13.trans (pp14.wide (by omega) (by omega))
    have hb_sb_ic := ssb14.bic
    have hb_sb_lc := ssb14.blc
    change q_W _ _ _ _ _ _ _ _ 74 [.ref (100), .int (xid), .int (nI (v1)), q_u] [.ref (213)] _
    refine q_pop dX10_formatArgument_74 rfl ?_
    refine q_aload_n (by first | assumption | omega | decide | (rw [q_R0e]; omega)) dX10_formatArgument_75 rfl ?_
    refine q_getf (k := 9) (v := .ref (213)) kC_X10 kL_X10_64 rfl (by decide) dX10_formatArgument_76 sam14.c0 rfl ?_
    refine q_aload_n (by first | assumption | omega | decide | (rw [q_R0e]; omega)) dX10_formatArgument_79 rfl ?_
    refine q_getf (k := 4) (v := .ref (199)) kC_X10 kL_X10_32 rfl (by decide) dX10_formatArgument_80 sam14.c0 rfl ?_
    refine q_iload_n dX10_formatArgument_83 rfl ?_
    refine q_invV (mc' := 0) (ms' := 0) (d' := d - 1) (as := [.int (nI (v1))]) dX10_formatArgument_84 kM_X6_letter kL_X10_178 kI_X6_letter kS_X6_letter rfl (kC_X6.1) slb14.c0 rfl rfl (Nat.le_of_ble_eq_true rfl) (by omega) (by decide) (by omega) (by omega) (e_lb_letter (d := d - 1) slb14 v1 (by omega)) (q_kR ?_) q_xR
    change q_W _ _ _ _ _ _ _ _ 87 [.ref (100), .int (xid), .int (nI (v1)), q_u] [.int (x_lb_letter y3_ac y3_rj v1), .ref (213)] _
    obtain ⟨fs9, hc9⟩ := ssb14.celll
    refine q_invV (mc' := 1) (ms' := 286) (d' := d - 1) (as := [.int (x_lb_letter y3_ac y3_rj v1)]) dX10_formatArgument_87 kM_J4_append_cf468 kL_X10_312 kI_J4_append_cf468 kS_J4_append_cf468 rfl (kC_J4.1) hc9 rfl rfl (Nat.le_of_ble_eq_true rfl) (by omega) (by decide) (by omega) (by omega) (e_lineC (d := d - 1) ssb14 (z_letter_lat _ _ _) (by omega) (by omega)) (q_kC (fun h15 hB => ?_)) q_xC
    obtain ⟨t15_0, pp15⟩ := hB
    have ssb15 : z_Sbs h15 211 ic fi (0 + sb_dg ((xid).toNatClampNeg) + 1 + sb_dg ((x_st_strength wt ag v1).toNatClampNeg) + 1 + sb_dg ((wt v1).toNatClampNeg) + 2) (upd (upd (x_num (upd (x_num (upd (x_num fl 0 ((xid).toNatClampNeg)) (0 + sb_dg ((xid).toNatClampNeg)) (40)) (0 + sb_dg ((xid).toNatClampNeg) + 1) ((x_st_strength wt ag v1).toNatClampNeg)) (0 + sb_dg ((xid).toNatClampNeg) + 1 + sb_dg ((x_st_strength wt ag v1).toNatClampNeg)) (47)) (0 + sb_dg ((xid).toNatClampNeg) + 1 + sb_dg ((x_st_strength wt ag v1).toNatClampNeg) + 1) ((wt v1).toNatClampNeg)) (0 + sb_dg ((xid).toNatClampNeg) + 1 + sb_dg ((x_st_strength wt ag v1).toNatClampNeg) + 1 + sb_dg ((wt v1).toNatClampNeg)) (41)) (0 + sb_dg ((xid).toNatClampNeg) + 1 + sb_dg ((x_st_strength wt ag v1).toNatClampNeg) + 1 + sb_dg ((wt v1).toNatClampNeg) + 1) (x_lb_letter y3_ac y3_rj v1)) := t15_0
    have sam15 := sam14.keepZ pp15 (by omega)
    have sst15 := sst14.keepZ pp15 (by omega)
    have slb15 := slb14.keepZ pp15 (by omega)
    have sga15 := sga14.keepZ pp15 (by omega)
    have sex15 := sex14.keepZ pp15 (by omega)
    have spr15 := spr14.keepZ pp15 (by omega)
    have p15 := p14.trans (pp15.wide (by omega) (by omega))
    have hb_sb_ic := ssb15.bic
    have hb_sb_lc := ssb15.blc
    change q_W _ _ _ _ _ _ _ _ 90 [.ref (100), .int (xid), .int (nI (v1)), q_u] [.ref (213)] _
    refine q_pop dX10_formatArgument_90 rfl ?_
    refine q_iconst (v := 0) dX10_formatArgument_91 rfl ?_
    refine q_istore_n dX10_formatArgument_92 (by decide) rfl ?_
    change q_W _ _ _ _ _ _ _ _ _ [.ref (100), .int (xid), .int (nI (v1)), .int (0)] [] _
    refine q_forget 1 ?_
    change q_W _ _ _ _ _ _ _ _ _ [.ref (100), q_u, .int (nI (v1)), .int (0)] [] _
    refine q_widen (kc' := 9 + 2 * 0) (ks' := 2294 + 572 * 0) (by omega) (by omega) ?_
    refine l_am_formatArgument_93 (kc := 9) (ks := 2294) hnid hnwt hnst ho_st_n ho_st_mn ho_ex_sc ho_pr_pc ho_pr_pp ho_sb_ic hz9 f1 g9 g12 (by omega) (by omega) (by omega) n 0 (upd (upd (x_num (upd (x_num (upd (x_num fl 0 ((xid).toNatClampNeg)) (0 + sb_dg ((xid).toNatClampNeg)) (40)) (0 + sb_dg ((xid).toNatClampNeg) + 1) ((x_st_strength wt ag v1).toNatClampNeg)) (0 + sb_dg ((xid).toNatClampNeg) + 1 + sb_dg ((x_st_strength wt ag v1).toNatClampNeg)) (47)) (0 + sb_dg ((xid).toNatClampNeg) + 1 + sb_dg ((x_st_strength wt ag v1).toNatClampNeg) + 1) ((wt v1).toNatClampNeg)) (0 + sb_dg ((xid).toNatClampNeg) + 1 + sb_dg ((x_st_strength wt ag v1).toNatClampNeg) + 1 + sb_dg ((wt v1).toNatClampNeg)) (41)) (0 + sb_dg ((xid).toNatClampNeg) + 1 + sb_dg ((x_st_strength wt ag v1).toNatClampNeg) + 1 + sb_dg ((wt v1).toNatClampNeg) + 1) (x_lb_letter y3_ac y3_rj v1)) (0 + sb_dg ((xid).toNatClampNeg) + 1 + sb_dg ((x_st_strength wt ag v1).toNatClampNeg) + 1 + sb_dg ((wt v1).toNatClampNeg) + 2) h15 sam15 sst15 slb15 sga15 sex15 spr15 ssb15 p15 (by omega) (by omega) (fun a19_0 a19_1 x19 hq19_1 h20 sam20 sst20 slb20 sga20 sex20 spr20 ssb20 p20 => ?_)
    have hb_sb_ic := ssb20.bic
    have hb_sb_lc := ssb20.blc
    change q_W _ _ _ _ _ _ _ _ 148 [.ref (100), q_u, q_u, q_u] [] _
    refine q_aload_n (by first | assumption | omega | decide | (rw [q_R0e]; omega)) dX10_formatArgument_148 rfl ?_
    refine q_getf (k := 9) (v := .ref (213)) kC_X10 kL_X10_64 rfl (by decide) dX10_formatArgument_149 sam20.c0 rfl ?_
    obtain ⟨fs9, hc9⟩ := ssb20.celll
    refine q_invV (mc' := 0) (ms' := 0) (d' := d - 1) (as := []) dX10_formatArgument_152 kM_J4_length_8abf5 kL_X10_315 kI_J4_length_8abf5 kS_J4_length_8abf5 rfl (kC_J4.1) hc9 rfl rfl (Nat.le_of_ble_eq_true rfl) (by omega) (by decide) (by omega) (by omega) (e_lineLen (d := d - 1) ssb20 (by omega)) (q_kR ?_) q_xR
    change q_W _ _ _ _ _ _ _ _ 155 [.ref (100), q_u, q_u, q_u] [.int (nI (a19_1))] _
    have hE : x_am_formatArgument n id wt ag att ac rj ro lc fl xid = (.inl (nI (a19_1)), y3_ac, y3_rj, y3_ro, a19_1, a19_0) := by simp only [x_am_formatArgument, x1, x3, x19]
    rw [hE]
    exact q_ireturn dX10_formatArgument_155 rfl rfl (by omega) (by omega) ⟨rfl, sam20, sst20, slb20, sga20, sex20, spr20, ssb20, p20⟩
  · have e9 := e_st_slotOfKnown (g := g) (h := h) (d := d - 1) sst xid (by omega)
    rw [x1] at e9
    refine q_invV (mc' := 1) (ms' := 6) (d' := d - 1) (as := [.int (xid)]) dX10_formatArgument_5 kM_X8_slotOfKnown kL_X10_138 kI_X8_slotOfKnown kS_X8_slotOfKnown rfl (kC_X8.1) sst.c0 rfl rfl (Nat.le_of_ble_eq_true rfl) (by omega) (by decide) (by omega) (by omega) (e9) q_kT (q_xT ?_)
    have hE : x_am_formatArgument n id wt ag att ac rj ro lc fl xid = (.inr e1, ac, rj, ro, lc, fl) := by simp only [x_am_formatArgument, x1]
    rw [hE]
    exact q_xout rfl ⟨rfl, sam.keep (q_same.skip (a := 0) (k := 0)) (by omega), sst.keep (q_same.skip (a := 0) (k := 0)) (by omega), slb.keep (q_same.skip (a := 0) (k := 0)) (by omega), sga.keep (q_same.skip (a := 0) (k := 0)) (by omega), sex.keep (q_same.skip (a := 0) (k := 0)) (by omega), spr.keep (q_same.skip (a := 0) (k := 0)) (by omega), ssb.keep (q_same.skip (a := 0) (k := 0)) (by omega), p0.trans (q_zone.skip (Nat.le_trans hz9 p0.1))⟩ (by omega) (by omega)
def x_am_formatDialogue_22 (mv : Nat → Int32) : Nat → Nat → (Nat → Int32) → (Nat) → (Nat → Int32) × (Nat)
  | 0, _, fl_22, lc_22 => (fl_22, lc_22)
  | r + 1, k, fl_22, lc_22 => (if k ≤ 0 then (if x_dl_isProponents k then x_am_formatDialogue_22 mv r (k + 1) (x_num (upd fl_22 lc_22 (112)) (lc_22 + 1) ((mv k).toNatClampNeg)) (lc_22 + 1 + sb_dg ((mv k).toNatClampNeg)) else x_am_formatDialogue_22 mv r (k + 1) (x_num (upd fl_22 lc_22 (111)) (lc_22 + 1) ((mv k).toNatClampNeg)) (lc_22 + 1 + sb_dg ((mv k).toNatClampNeg))) else (if x_dl_isProponents k then x_am_formatDialogue_22 mv r (k + 1) (x_num (upd (upd fl_22 lc_22 (32)) (lc_22 + 1) (112)) (lc_22 + 2) ((mv k).toNatClampNeg)) (lc_22 + 2 + sb_dg ((mv k).toNatClampNeg)) else x_am_formatDialogue_22 mv r (k + 1) (x_num (upd (upd fl_22 lc_22 (32)) (lc_22 + 1) (111)) (lc_22 + 2) ((mv k).toNatClampNeg)) (lc_22 + 2 + sb_dg ((mv k).toNatClampNeg))))
set_option maxRecDepth 100000 in
set_option maxHeartbeats 8000000 in
theorem l_am_formatDialogue_22 {g : q_G} {h : q_H} {d mc ms kc ks : Nat} {Q : q_O → q_H → Prop} {hs : Bool} {se : Int32} {sf : Int32} {n : Nat} {id : Nat → Int32} {wt : Nat → Int32} {ag : Nat → Int32} {tg : Nat → Int32} {att : Nat → Int32} {ni : Int32} {dy : Int32} {mn : Nat} {mv : Nat → Int32} {en : Int32} {wo : Int32} {br : Int32} {ic : Nat} {fi : Nat → Int32}   (hnmv : ∀ j, j < mn → ∃ m : Nat, m < 10000 ∧ mv j = nI m) (ho_st_n : n ≤ 8) (ho_st_mn : mn ≤ 12) (ho_sb_ic : ic ≤ 60) (hz9 : 215 ≤ h.1) (f1 : mn ≠ 0)  (hd : 7 ≤ d) (hkc : kc + 36 ≤ mc) (hks : ks + 10296 ≤ ms) : ∀ (r k : Nat) (fl_22 : Nat → Int32) (lc_22 : Nat) (hh : q_H) (sam_22 : z_Am hh 100 hs se sf) (sst_22 : z_S2 hh 101 n id wt ag tg att ni dy mn mv en wo br) (ssb_22 : z_Sbs hh 211 ic fi lc_22 fl_22) (pH : q_zone h hh 211 4) (hk_22 : k + r = mn) (hn_lc_22 : lc_22 ≤ 6 * k) (K : ∀ (r22_0 : Nat → Int32) (r22_1 : Nat), x_am_formatDialogue_22 mv r k fl_22 lc_22 = (r22_0, r22_1) → r22_1 ≤ 6 * mn → ∀ h2, z_Am h2 100 hs se sf → z_S2 h2 101 n id wt ag tg att ni dy mn mv en wo br → z_Sbs h2 211 ic fi r22_1 r22_0 → q_zone h h2 211 4 → q_W g mX10_formatDialogue d mc ms Q (kc + 36) (ks + 10296) 81 [.ref (100), q_u, q_u] [] h2), q_W g mX10_formatDialogue d mc ms Q (kc + 3 * k) (ks + 858 * k) 22 [.ref (100), .ref (107), .int (nI (k))] [] hh := by
  intro r
  induction r with
  | zero =>
    intro k fl_22 lc_22 hh sam_22 sst_22 ssb_22 pH hk_22 hn_lc_22 K
    have hb_st_n := sst_22.bn
    have hb_st_mn := sst_22.bmn
    have hb_sb_ic := ssb_22.bic
    have hb_sb_lc := ssb_22.blc
    refine q_iload_n dX10_formatDialogue_22 rfl ?_
    refine q_aload_n (by first | assumption | omega | decide | (rw [q_R0e]; omega)) dX10_formatDialogue_23 rfl ?_
    refine q_getf (k := 1) (v := .int (nI (mn))) kC_X2 kL_X10_257 rfl (by decide) dX10_formatDialogue_24 sst_22.c6 rfl ?_
    refine q_icmp_ge 81 dX10_formatDialogue_27 (by decide) (fun b27 => ?_) (fun b27 => ?_)
    · have b27 := (nI_leI (a := mn) (b := k) (by omega) (by omega)).mp b27
      refine q_forget 1 ?_
      refine q_forget 2 ?_
      change q_W _ _ _ _ _ _ _ _ _ [.ref (100), q_u, q_u] [] _
      refine q_widen (kc' := kc + 36) (ks' := ks + 10296) (by omega) (by omega) ?_
      exact K fl_22 lc_22 (by simp only [x_am_formatDialogue_22]) (by omega) hh sam_22 sst_22 ssb_22 pH
    · have b27 : ¬ (mn ≤ k) := fun q => b27 ((nI_leI (a := mn) (b := k) (by omega) (by omega)).mpr q)
      exact absurd b27 (by omega)
  | succ r ih =>
    intro k fl_22 lc_22 hh sam_22 sst_22 ssb_22 pH hk_22 hn_lc_22 K
    have hb_st_n := sst_22.bn
    have hb_st_mn := sst_22.bmn
    have hb_sb_ic := ssb_22.bic
    have hb_sb_lc := ssb_22.blc
    refine q_iload_n dX10_formatDialogue_22 rfl ?_
    refine q_aload_n (by first | assumption | omega | decide | (rw [q_R0e]; omega)) dX10_formatDialogue_23 rfl ?_
    refine q_getf (k := 1) (v := .int (nI (mn))) kC_X2 kL_X10_257 rfl (by decide) dX10_formatDialogue_24 sst_22.c6 rfl ?_
    refine q_icmp_ge 81 dX10_formatDialogue_27 (by decide) (fun b27 => ?_) (fun b27 => ?_)
    · have b27 := (nI_leI (a := mn) (b := k) (by omega) (by omega)).mp b27
      exact absurd b27 (by omega)
    · have b27 : ¬ (mn ≤ k) := fun q => b27 ((nI_leI (a := mn) (b := k) (by omega) (by omega)).mpr q)
      refine q_iload_n dX10_formatDialogue_30 rfl ?_
      refine q_if_le 44 dX10_formatDialogue_31 (by decide) (fun b31 => ?_) (fun b31 => ?_)
      · have b31 := (nI_leI (a := k) (b := 0) (by omega) (by omega)).mp b31
        refine q_aload_n (by first | assumption | omega | decide | (rw [q_R0e]; omega)) dX10_formatDialogue_44 rfl ?_
        refine q_getf (k := 9) (v := .ref (213)) kC_X10 kL_X10_64 rfl (by decide) dX10_formatDialogue_45 sam_22.c0 rfl ?_
        refine q_iload_n dX10_formatDialogue_48 rfl ?_
        refine q_invS (mc' := 0) (ms' := 0) (d' := d - 1) (as := [.int (nI (k))]) dX10_formatDialogue_49 kM_X2_isProponents kL_X10_321 kT_X2_isProponents rfl rfl rfl (Nat.le_of_ble_eq_true rfl) (by omega) (by decide) (by omega) (by omega) (e_dl_isProponents (d := d - 1) k (by omega) (by omega)) (q_kR ?_) q_xR
        change q_W _ _ _ _ _ _ _ _ 52 [.ref (100), .ref (107), .int (nI (k))] [.int (z_b (x_dl_isProponents k)), .ref (213)] _
        refine q_if_eq 60 dX10_formatDialogue_52 (by decide) (fun b52 => ?_) (fun b52 => ?_)
        · have b52 := z_b0n b52
          refine q_bipush (v := 111) dX10_formatDialogue_60 rfl ?_
          obtain ⟨fs9, hc9⟩ := ssb_22.celll
          refine q_invV (mc' := 1) (ms' := 286) (d' := d - 1) (as := [.int (111)]) dX10_formatDialogue_62 kM_J4_append_cf468 kL_X10_312 kI_J4_append_cf468 kS_J4_append_cf468 rfl (kC_J4.1) hc9 rfl rfl (Nat.le_of_ble_eq_true rfl) (by omega) (by decide) (by omega) (by omega) (e_lineC (d := d - 1) ssb_22 (z_latN (c := 111) (by omega)) (by omega) (by omega)) (q_kC (fun h4 hB => ?_)) q_xC
          obtain ⟨t4_0, pp4⟩ := hB
          have ssb4 : z_Sbs h4 211 ic fi (lc_22 + 1) (upd fl_22 lc_22 (111)) := t4_0
          have sam4 := sam_22.keepZ pp4 (by omega)
          have sst4 := sst_22.keepZ pp4 (by omega)
          have p4 := pH.trans (pp4.wide (by omega) (by omega))
          have hb_sb_ic := ssb4.bic
          have hb_sb_lc := ssb4.blc
          change q_W _ _ _ _ _ _ _ _ 65 [.ref (100), .ref (107), .int (nI (k))] [.ref (213)] _
          refine q_aload_n (by first | assumption | omega | decide | (rw [q_R0e]; omega)) dX10_formatDialogue_65 rfl ?_
          refine q_getf (k := 0) (v := .ref (108)) kC_X2 kL_X10_260 rfl (by decide) dX10_formatDialogue_66 sst4.c6 rfl ?_
          refine q_iload_n dX10_formatDialogue_69 rfl ?_
          refine q_ialdN (j := k) (f := mv) dX10_formatDialogue_70 sst4.c7 (by omega) (by decide) ?_
          change q_W _ _ _ _ _ _ _ _ _ _ [.int (mv k), .ref (213)] _
          have g5 := z_dg4 (x := mv k) (hnmv _ (by omega))
          obtain ⟨fs9, hc9⟩ := ssb4.celll
          refine q_invV (mc' := 1) (ms' := 286) (d' := d - 1) (as := [.int (mv k)]) dX10_formatDialogue_71 kM_J4_append_bf812 kL_X10_308 kI_J4_append_bf812 kS_J4_append_bf812 rfl (kC_J4.1) hc9 rfl rfl (Nat.le_of_ble_eq_true rfl) (by omega) (by decide) (by omega) (by omega) (e_lineI (d := d - 1) ssb4 (hnmv _ (by omega)) (by omega) (by omega)) (q_kC (fun h6 hB => ?_)) q_xC
          obtain ⟨t6_0, pp6⟩ := hB
          have ssb6 : z_Sbs h6 211 ic fi (lc_22 + 1 + sb_dg ((mv k).toNatClampNeg)) (x_num (upd fl_22 lc_22 (111)) (lc_22 + 1) ((mv k).toNatClampNeg)) := t6_0
          have sam6 := sam4.keepZ pp6 (by omega)
          have sst6 := sst4.keepZ pp6 (by omega)
          have p6 := p4.trans (pp6.wide (by omega) (by omega))
          have hb_sb_ic := ssb6.bic
          have hb_sb_lc := ssb6.blc
          change q_W _ _ _ _ _ _ _ _ 74 [.ref (100), .ref (107), .int (nI (k))] [.ref (213)] _
          refine q_pop dX10_formatDialogue_74 rfl ?_
          refine q_iinc (x := nI (k)) (v := nI (k + 1)) dX10_formatDialogue_75 rfl (nI_add _ 1) rfl ?_
          change q_W _ _ _ _ _ _ _ _ _ [.ref (100), .ref (107), .int (nI (k + 1))] [] _
          refine q_goto 22 dX10_formatDialogue_78 (by decide) ?_
          change q_W _ _ _ _ _ _ _ _ _ [.ref (100), .ref (107), .int (nI (k + 1))] [] _
          refine q_widen (kc' := kc + 3 * (k + 1)) (ks' := ks + 858 * (k + 1)) (by omega) (by omega) ?_
          exact ih (k + 1) (x_num (upd fl_22 lc_22 (111)) (lc_22 + 1) ((mv k).toNatClampNeg)) (lc_22 + 1 + sb_dg ((mv k).toNatClampNeg)) h6 sam6 sst6 ssb6 p6 (by omega) (by first | omega | (split <;> omega)) (fun r22_0 r22_1 e9 => K r22_0 r22_1 (by simp only [x_am_formatDialogue_22, if_pos b31, if_neg b52]; exact e9))
        · have b52 := z_b1 b52
          refine q_bipush (v := 112) dX10_formatDialogue_55 rfl ?_
          refine q_goto 62 dX10_formatDialogue_57 (by decide) ?_
          obtain ⟨fs9, hc9⟩ := ssb_22.celll
          refine q_invV (mc' := 1) (ms' := 286) (d' := d - 1) (as := [.int (112)]) dX10_formatDialogue_62 kM_J4_append_cf468 kL_X10_312 kI_J4_append_cf468 kS_J4_append_cf468 rfl (kC_J4.1) hc9 rfl rfl (Nat.le_of_ble_eq_true rfl) (by omega) (by decide) (by omega) (by omega) (e_lineC (d := d - 1) ssb_22 (z_latN (c := 112) (by omega)) (by omega) (by omega)) (q_kC (fun h7 hB => ?_)) q_xC
          obtain ⟨t7_0, pp7⟩ := hB
          have ssb7 : z_Sbs h7 211 ic fi (lc_22 + 1) (upd fl_22 lc_22 (112)) := t7_0
          have sam7 := sam_22.keepZ pp7 (by omega)
          have sst7 := sst_22.keepZ pp7 (by omega)
          have p7 := pH.trans (pp7.wide (by omega) (by omega))
          have hb_sb_ic := ssb7.bic
          have hb_sb_lc := ssb7.blc
          change q_W _ _ _ _ _ _ _ _ 65 [.ref (100), .ref (107), .int (nI (k))] [.ref (213)] _
          refine q_aload_n (by first | assumption | omega | decide | (rw [q_R0e]; omega)) dX10_formatDialogue_65 rfl ?_
          refine q_getf (k := 0) (v := .ref (108)) kC_X2 kL_X10_260 rfl (by decide) dX10_formatDialogue_66 sst7.c6 rfl ?_
          refine q_iload_n dX10_formatDialogue_69 rfl ?_
          refine q_ialdN (j := k) (f := mv) dX10_formatDialogue_70 sst7.c7 (by omega) (by decide) ?_
          change q_W _ _ _ _ _ _ _ _ _ _ [.int (mv k), .ref (213)] _
          have g8 := z_dg4 (x := mv k) (hnmv _ (by omega))
          obtain ⟨fs9, hc9⟩ := ssb7.celll
          refine q_invV (mc' := 1) (ms' := 286) (d' := d - 1) (as := [.int (mv k)]) dX10_formatDialogue_71 kM_J4_append_bf812 kL_X10_308 kI_J4_append_bf812 kS_J4_append_bf812 rfl (kC_J4.1) hc9 rfl rfl (Nat.le_of_ble_eq_true rfl) (by omega) (by decide) (by omega) (by omega) (e_lineI (d := d - 1) ssb7 (hnmv _ (by omega)) (by omega) (by omega)) (q_kC (fun h9 hB => ?_)) q_xC
          obtain ⟨t9_0, pp9⟩ := hB
          have ssb9 : z_Sbs h9 211 ic fi (lc_22 + 1 + sb_dg ((mv k).toNatClampNeg)) (x_num (upd fl_22 lc_22 (112)) (lc_22 + 1) ((mv k).toNatClampNeg)) := t9_0
          have sam9 := sam7.keepZ pp9 (by omega)
          have sst9 := sst7.keepZ pp9 (by omega)
          have p9 := p7.trans (pp9.wide (by omega) (by omega))
          have hb_sb_ic := ssb9.bic
          have hb_sb_lc := ssb9.blc
          change q_W _ _ _ _ _ _ _ _ 74 [.ref (100), .ref (107), .int (nI (k))] [.ref (213)] _
          refine q_pop dX10_formatDialogue_74 rfl ?_
          refine q_iinc (x := nI (k)) (v := nI (k + 1)) dX10_formatDialogue_75 rfl (nI_add _ 1) rfl ?_
          change q_W _ _ _ _ _ _ _ _ _ [.ref (100), .ref (107), .int (nI (k + 1))] [] _
          refine q_goto 22 dX10_formatDialogue_78 (by decide) ?_
          change q_W _ _ _ _ _ _ _ _ _ [.ref (100), .ref (107), .int (nI (k + 1))] [] _
          refine q_widen (kc' := kc + 3 * (k + 1)) (ks' := ks + 858 * (k + 1)) (by omega) (by omega) ?_
          exact ih (k + 1) (x_num (upd fl_22 lc_22 (112)) (lc_22 + 1) ((mv k).toNatClampNeg)) (lc_22 + 1 + sb_dg ((mv k).toNatClampNeg)) h9 sam9 sst9 ssb9 p9 (by omega) (by first | omega | (split <;> omega)) (fun r22_0 r22_1 e9 => K r22_0 r22_1 (by simp only [x_am_formatDialogue_22, if_pos b31, if_pos b52]; exact e9))
      · have b31 : ¬ (k ≤ 0) := fun q => b31 ((nI_leI (a := k) (b := 0) (by omega) (by omega)).mpr q)
        refine q_aload_n (by first | assumption | omega | decide | (rw [q_R0e]; omega)) dX10_formatDialogue_34 rfl ?_
        refine q_getf (k := 9) (v := .ref (213)) kC_X10 kL_X10_64 rfl (by decide) dX10_formatDialogue_35 sam_22.c0 rfl ?_
        refine q_bipush (v := 32) dX10_formatDialogue_38 rfl ?_
        obtain ⟨fs9, hc9⟩ := ssb_22.celll
        refine q_invV (mc' := 1) (ms' := 286) (d' := d - 1) (as := [.int (32)]) dX10_formatDialogue_40 kM_J4_append_cf468 kL_X10_312 kI_J4_append_cf468 kS_J4_append_cf468 rfl (kC_J4.1) hc9 rfl rfl (Nat.le_of_ble_eq_true rfl) (by omega) (by decide) (by omega) (by omega) (e_lineC (d := d - 1) ssb_22 (z_latN (c := 32) (by omega)) (by omega) (by omega)) (q_kC (fun h10 hB => ?_)) q_xC
        obtain ⟨t10_0, pp10⟩ := hB
        have ssb10 : z_Sbs h10 211 ic fi (lc_22 + 1) (upd fl_22 lc_22 (32)) := t10_0
        have sam10 := sam_22.keepZ pp10 (by omega)
        have sst10 := sst_22.keepZ pp10 (by omega)
        have p10 := pH.trans (pp10.wide (by omega) (by omega))
        have hb_sb_ic := ssb10.bic
        have hb_sb_lc := ssb10.blc
        change q_W _ _ _ _ _ _ _ _ 43 [.ref (100), .ref (107), .int (nI (k))] [.ref (213)] _
        refine q_pop dX10_formatDialogue_43 rfl ?_
        refine q_aload_n (by first | assumption | omega | decide | (rw [q_R0e]; omega)) dX10_formatDialogue_44 rfl ?_
        refine q_getf (k := 9) (v := .ref (213)) kC_X10 kL_X10_64 rfl (by decide) dX10_formatDialogue_45 sam10.c0 rfl ?_
        refine q_iload_n dX10_formatDialogue_48 rfl ?_
        refine q_invS (mc' := 0) (ms' := 0) (d' := d - 1) (as := [.int (nI (k))]) dX10_formatDialogue_49 kM_X2_isProponents kL_X10_321 kT_X2_isProponents rfl rfl rfl (Nat.le_of_ble_eq_true rfl) (by omega) (by decide) (by omega) (by omega) (e_dl_isProponents (d := d - 1) k (by omega) (by omega)) (q_kR ?_) q_xR
        change q_W _ _ _ _ _ _ _ _ 52 [.ref (100), .ref (107), .int (nI (k))] [.int (z_b (x_dl_isProponents k)), .ref (213)] _
        refine q_if_eq 60 dX10_formatDialogue_52 (by decide) (fun b52 => ?_) (fun b52 => ?_)
        · have b52 := z_b0n b52
          refine q_bipush (v := 111) dX10_formatDialogue_60 rfl ?_
          obtain ⟨fs9, hc9⟩ := ssb10.celll
          refine q_invV (mc' := 1) (ms' := 286) (d' := d - 1) (as := [.int (111)]) dX10_formatDialogue_62 kM_J4_append_cf468 kL_X10_312 kI_J4_append_cf468 kS_J4_append_cf468 rfl (kC_J4.1) hc9 rfl rfl (Nat.le_of_ble_eq_true rfl) (by omega) (by decide) (by omega) (by omega) (e_lineC (d := d - 1) ssb10 (z_latN (c := 111) (by omega)) (by omega) (by omega)) (q_kC (fun h11 hB => ?_)) q_xC
          obtain ⟨t11_0, pp11⟩ := hB
          have ssb11 : z_Sbs h11 211 ic fi (lc_22 + 2) (upd (upd fl_22 lc_22 (32)) (lc_22 + 1) (111)) := t11_0
          have sam11 := sam10.keepZ pp11 (by omega)
          have sst11 := sst10.keepZ pp11 (by omega)
          have p11 := p10.trans (pp11.wide (by omega) (by omega))
          have hb_sb_ic := ssb11.bic
          have hb_sb_lc := ssb11.blc
          change q_W _ _ _ _ _ _ _ _ 65 [.ref (100), .ref (107), .int (nI (k))] [.ref (213)] _
          refine q_aload_n (by first | assumption | omega | decide | (rw [q_R0e]; omega)) dX10_formatDialogue_65 rfl ?_
          refine q_getf (k := 0) (v := .ref (108)) kC_X2 kL_X10_260 rfl (by decide) dX10_formatDialogue_66 sst11.c6 rfl ?_
          refine q_iload_n dX10_formatDialogue_69 rfl ?_
          refine q_ialdN (j := k) (f := mv) dX10_formatDialogue_70 sst11.c7 (by omega) (by decide) ?_
          change q_W _ _ _ _ _ _ _ _ _ _ [.int (mv k), .ref (213)] _
          have g12 := z_dg4 (x := mv k) (hnmv _ (by omega))
          obtain ⟨fs9, hc9⟩ := ssb11.celll
          refine q_invV (mc' := 1) (ms' := 286) (d' := d - 1) (as := [.int (mv k)]) dX10_formatDialogue_71 kM_J4_append_bf812 kL_X10_308 kI_J4_append_bf812 kS_J4_append_bf812 rfl (kC_J4.1) hc9 rfl rfl (Nat.le_of_ble_eq_true rfl) (by omega) (by decide) (by omega) (by omega) (e_lineI (d := d - 1) ssb11 (hnmv _ (by omega)) (by omega) (by omega)) (q_kC (fun h13 hB => ?_)) q_xC
          obtain ⟨t13_0, pp13⟩ := hB
          have ssb13 : z_Sbs h13 211 ic fi (lc_22 + 2 + sb_dg ((mv k).toNatClampNeg)) (x_num (upd (upd fl_22 lc_22 (32)) (lc_22 + 1) (111)) (lc_22 + 2) ((mv k).toNatClampNeg)) := t13_0
          have sam13 := sam11.keepZ pp13 (by omega)
          have sst13 := sst11.keepZ pp13 (by omega)
          have p13 := p11.trans (pp13.wide (by omega) (by omega))
          have hb_sb_ic := ssb13.bic
          have hb_sb_lc := ssb13.blc
          change q_W _ _ _ _ _ _ _ _ 74 [.ref (100), .ref (107), .int (nI (k))] [.ref (213)] _
          refine q_pop dX10_formatDialogue_74 rfl ?_
          refine q_iinc (x := nI (k)) (v := nI (k + 1)) dX10_formatDialogue_75 rfl (nI_add _ 1) rfl ?_
          change q_W _ _ _ _ _ _ _ _ _ [.ref (100), .ref (107), .int (nI (k + 1))] [] _
          refine q_goto 22 dX10_formatDialogue_78 (by decide) ?_
          change q_W _ _ _ _ _ _ _ _ _ [.ref (100), .ref (107), .int (nI (k + 1))] [] _
          refine q_widen (kc' := kc + 3 * (k + 1)) (ks' := ks + 858 * (k + 1)) (by omega) (by omega) ?_
          exact ih (k + 1) (x_num (upd (upd fl_22 lc_22 (32)) (lc_22 + 1) (111)) (lc_22 + 2) ((mv k).toNatClampNeg)) (lc_22 + 2 + sb_dg ((mv k).toNatClampNeg)) h13 sam13 sst13 ssb13 p13 (by omega) (by first | omega | (split <;> omega)) (fun r22_0 r22_1 e9 => K r22_0 r22_1 (by simp only [x_am_formatDialogue_22, if_neg b31, if_neg b52]; exact e9))
        · have b52 := z_b1 b52
          refine q_bipush (v := 112) dX10_formatDialogue_55 rfl ?_
          refine q_goto 62 dX10_formatDialogue_57 (by decide) ?_
          obtain ⟨fs9, hc9⟩ := ssb10.celll
          refine q_invV (mc' := 1) (ms' := 286) (d' := d - 1) (as := [.int (112)]) dX10_formatDialogue_62 kM_J4_append_cf468 kL_X10_312 kI_J4_append_cf468 kS_J4_append_cf468 rfl (kC_J4.1) hc9 rfl rfl (Nat.le_of_ble_eq_true rfl) (by omega) (by decide) (by omega) (by omega) (e_lineC (d := d - 1) ssb10 (z_latN (c := 112) (by omega)) (by omega) (by omega)) (q_kC (fun h14 hB => ?_)) q_xC
          obtain ⟨t14_0, pp14⟩ := hB
          have ssb14 : z_Sbs h14 211 ic fi (lc_22 + 2) (upd (upd fl_22 lc_22 (32)) (lc_22 + 1) (112)) := t14_0
          have sam14 := sam10.keepZ pp14 (by omega)
          have sst14 := sst10.keepZ pp14 (by omega)
          have p14 := p10.trans (pp14.wide (by omega) (by omega))
          have hb_sb_ic := ssb14.bic
          have hb_sb_lc := ssb14.blc
          change q_W _ _ _ _ _ _ _ _ 65 [.ref (100), .ref (107), .int (nI (k))] [.ref (213)] _
          refine q_aload_n (by first | assumption | omega | decide | (rw [q_R0e]; omega)) dX10_formatDialogue_65 rfl ?_
          refine q_getf (k := 0) (v := .ref (108)) kC_X2 kL_X10_260 rfl (by decide) dX10_formatDialogue_66 sst14.c6 rfl ?_
          refine q_iload_n dX10_formatDialogue_69 rfl ?_
          refine q_ialdN (j := k) (f := mv) dX10_formatDialogue_70 sst14.c7 (by omega) (by decide) ?_
          change q_W _ _ _ _ _ _ _ _ _ _ [.int (mv k), .ref (213)] _
          have g15 := z_dg4 (x := mv k) (hnmv _ (by omega))
          obtain ⟨fs9, hc9⟩ := ssb14.celll
          refine q_invV (mc' := 1) (ms' := 286) (d' := d - 1) (as := [.int (mv k)]) dX10_formatDialogue_71 kM_J4_append_bf812 kL_X10_308 kI_J4_append_bf812 kS_J4_append_bf812 rfl (kC_J4.1) hc9 rfl rfl (Nat.le_of_ble_eq_true rfl) (by omega) (by decide) (by omega) (by omega) (e_lineI (d := d - 1) ssb14 (hnmv _ (by omega)) (by omega) (by omega)) (q_kC (fun h16 hB => ?_)) q_xC
          obtain ⟨t16_0, pp16⟩ := hB
          have ssb16 : z_Sbs h16 211 ic fi (lc_22 + 2 + sb_dg ((mv k).toNatClampNeg)) (x_num (upd (upd fl_22 lc_22 (32)) (lc_22 + 1) (112)) (lc_22 + 2) ((mv k).toNatClampNeg)) := t16_0
          have sam16 := sam14.keepZ pp16 (by omega)
          have sst16 := sst14.keepZ pp16 (by omega)
          have p16 := p14.trans (pp16.wide (by omega) (by omega))
          have hb_sb_ic := ssb16.bic
          have hb_sb_lc := ssb16.blc
          change q_W _ _ _ _ _ _ _ _ 74 [.ref (100), .ref (107), .int (nI (k))] [.ref (213)] _
          refine q_pop dX10_formatDialogue_74 rfl ?_
          refine q_iinc (x := nI (k)) (v := nI (k + 1)) dX10_formatDialogue_75 rfl (nI_add _ 1) rfl ?_
          change q_W _ _ _ _ _ _ _ _ _ [.ref (100), .ref (107), .int (nI (k + 1))] [] _
          refine q_goto 22 dX10_formatDialogue_78 (by decide) ?_
          change q_W _ _ _ _ _ _ _ _ _ [.ref (100), .ref (107), .int (nI (k + 1))] [] _
          refine q_widen (kc' := kc + 3 * (k + 1)) (ks' := ks + 858 * (k + 1)) (by omega) (by omega) ?_
          exact ih (k + 1) (x_num (upd (upd fl_22 lc_22 (32)) (lc_22 + 1) (112)) (lc_22 + 2) ((mv k).toNatClampNeg)) (lc_22 + 2 + sb_dg ((mv k).toNatClampNeg)) h16 sam16 sst16 ssb16 p16 (by omega) (by first | omega | (split <;> omega)) (fun r22_0 r22_1 e9 => K r22_0 r22_1 (by simp only [x_am_formatDialogue_22, if_neg b31, if_pos b52]; exact e9))
def x_am_formatDialogue (mn : Nat) (mv : Nat → Int32) (lc : Nat) (fl : Nat → Int32) : (Int32 ⊕ String) × (Nat) × (Nat → Int32) := (match x_dl_mustBeHeld mn with | (.inl v1) => (match x_am_formatDialogue_22 mv mn 0 fl 0 with | (a17_0, a17_1) => (.inl (nI (a17_1)), a17_1, a17_0)) | (.inr e1) => (.inr e1, lc, fl))
set_option maxRecDepth 100000 in
set_option maxHeartbeats 8000000 in
theorem e_am_formatDialogue {g : q_G} {h : q_H} {d : Nat} {hs : Bool} {se : Int32} {sf : Int32} (sam : z_Am h 100 hs se sf) {n : Nat} {id : Nat → Int32} {wt : Nat → Int32} {ag : Nat → Int32} {tg : Nat → Int32} {att : Nat → Int32} {ni : Int32} {dy : Int32} {mn : Nat} {mv : Nat → Int32} {en : Int32} {wo : Int32} {br : Int32} (sst : z_S2 h 101 n id wt ag tg att ni dy mn mv en wo br) {ic : Nat} {fi : Nat → Int32} {lc : Nat} {fl : Nat → Int32} (ssb : z_Sbs h 211 ic fi lc fl)   (hnmv : ∀ j, j < mn → ∃ m : Nat, m < 10000 ∧ mv j = nI m)  (hd : 8 ≤ d) : q_Spec g mX10_formatDialogue d 38 10588 [.ref (100)] h (q_chg (q_oI (x_am_formatDialogue mn mv lc fl).1) (fun h1 => z_Am h1 100 hs se sf ∧ z_S2 h1 101 n id wt ag tg att ni dy mn mv en wo br ∧ z_Sbs h1 211 ic fi ((x_am_formatDialogue mn mv lc fl).2.1) ((x_am_formatDialogue mn mv lc fl).2.2) ∧ q_zone h h1 211 4)) := by
  have hb_st_n := sst.bn
  have hb_st_mn := sst.bmn
  have hb_sb_ic := ssb.bic
  have hb_sb_lc := ssb.blc
  have ho_st_n := sst.bn
  have ho_st_mn := sst.bmn
  have ho_sb_ic := ssb.bic
  have ho_sb_lc := ssb.blc
  have p0 : q_zone h h 211 4 := q_zone.rfl'
  have hz9 := ssb.s0
  refine q_enter (by decide +kernel) rfl rfl (Nat.le_of_ble_eq_true rfl) (fun hz => ?_)
  change q_W _ _ _ _ _ _ _ _ _ [.ref (100), q_u, q_u] [] _
  refine q_aload_n (by first | assumption | omega | decide | (rw [q_R0e]; omega)) dX10_formatDialogue_0 rfl ?_
  refine q_getf (k := 0) (v := .ref (101)) kC_X10 kL_X10_12 rfl (by decide) dX10_formatDialogue_1 sam.c0 rfl ?_
  refine q_getf (k := 5) (v := .ref (107)) kC_X8 kL_X10_247 rfl (by decide) dX10_formatDialogue_4 sst.c0 rfl ?_
  refine q_astore_n (by first | assumption | omega | decide | (rw [q_R0e]; omega)) dX10_formatDialogue_7 (by decide) rfl ?_
  change q_W _ _ _ _ _ _ _ _ _ [.ref (100), .ref (107), q_u] [] _
  refine q_aload_n (by first | assumption | omega | decide | (rw [q_R0e]; omega)) dX10_formatDialogue_8 rfl ?_
  rcases x1 : x_dl_mustBeHeld mn with v1 | e1
  · have e9 := e_dl_mustBeHeld (g := g) (h := h) (d := d - 1) (sst.dl) (by omega)
    rw [x1] at e9
    refine q_invV (mc' := 1) (ms' := 6) (d' := d - 1) (as := []) dX10_formatDialogue_9 kM_X2_mustBeHeld kL_X10_318 kI_X2_mustBeHeld kS_X2_mustBeHeld rfl (kC_X2.1) sst.c6 rfl rfl (Nat.le_of_ble_eq_true rfl) (by omega) (by decide) (by omega) (by omega) (e9) (q_kR ?_) q_xR
    have f1 := z_mbh x1
    change q_W _ _ _ _ _ _ _ _ 12 [.ref (100), .ref (107), q_u] [] _
    refine q_aload_n (by first | assumption | omega | decide | (rw [q_R0e]; omega)) dX10_formatDialogue_12 rfl ?_
    refine q_getf (k := 9) (v := .ref (213)) kC_X10 kL_X10_64 rfl (by decide) dX10_formatDialogue_13 sam.c0 rfl ?_
    refine q_iconst (v := 0) dX10_formatDialogue_16 rfl ?_
    obtain ⟨fs9, hc9⟩ := ssb.celll
    refine q_invV (mc' := 1) (ms' := 286) (d' := d - 1) (as := [.int (0)]) dX10_formatDialogue_17 kM_J4_setLength_d00df kL_X10_304 kI_J4_setLength_d00df kS_J4_setLength_d00df rfl (kC_J4.1) hc9 rfl rfl (Nat.le_of_ble_eq_true rfl) (by omega) (by decide) (by omega) (by omega) (e_line0 (d := d - 1) ssb (by omega)) (q_kC (fun h3 hB => ?_)) q_xC
    obtain ⟨t3_0, pp3⟩ := hB
    have ssb3 : z_Sbs h3 211 ic fi 0 fl := t3_0
    have sam3 := sam.keepZ pp3 (by omega)
    have sst3 := sst.keepZ pp3 (by omega)
    have p3 := p0.trans (pp3.wide (by omega) (by omega))
    have hb_sb_ic := ssb3.bic
    change q_W _ _ _ _ _ _ _ _ 20 [.ref (100), .ref (107), q_u] [] _
    refine q_iconst (v := 0) dX10_formatDialogue_20 rfl ?_
    refine q_istore_n dX10_formatDialogue_21 (by decide) rfl ?_
    change q_W _ _ _ _ _ _ _ _ _ [.ref (100), .ref (107), .int (0)] [] _
    change q_W _ _ _ _ _ _ _ _ _ [.ref (100), .ref (107), .int (0)] [] _
    refine q_widen (kc' := 2 + 3 * 0) (ks' := 292 + 858 * 0) (by omega) (by omega) ?_
    refine l_am_formatDialogue_22 (kc := 2) (ks := 292) hnmv ho_st_n ho_st_mn ho_sb_ic hz9 f1 (by omega) (by omega) (by omega) mn 0 fl 0 h3 sam3 sst3 ssb3 p3 (by omega) (by omega) (fun a17_0 a17_1 x17 hq17_1 h18 sam18 sst18 ssb18 p18 => ?_)
    have hb_sb_ic := ssb18.bic
    have hb_sb_lc := ssb18.blc
    change q_W _ _ _ _ _ _ _ _ 81 [.ref (100), q_u, q_u] [] _
    refine q_aload_n (by first | assumption | omega | decide | (rw [q_R0e]; omega)) dX10_formatDialogue_81 rfl ?_
    refine q_getf (k := 9) (v := .ref (213)) kC_X10 kL_X10_64 rfl (by decide) dX10_formatDialogue_82 sam18.c0 rfl ?_
    obtain ⟨fs9, hc9⟩ := ssb18.celll
    refine q_invV (mc' := 0) (ms' := 0) (d' := d - 1) (as := []) dX10_formatDialogue_85 kM_J4_length_8abf5 kL_X10_315 kI_J4_length_8abf5 kS_J4_length_8abf5 rfl (kC_J4.1) hc9 rfl rfl (Nat.le_of_ble_eq_true rfl) (by omega) (by decide) (by omega) (by omega) (e_lineLen (d := d - 1) ssb18 (by omega)) (q_kR ?_) q_xR
    change q_W _ _ _ _ _ _ _ _ 88 [.ref (100), q_u, q_u] [.int (nI (a17_1))] _
    have hE : x_am_formatDialogue mn mv lc fl = (.inl (nI (a17_1)), a17_1, a17_0) := by simp only [x_am_formatDialogue, x1, x17]
    rw [hE]
    exact q_ireturn dX10_formatDialogue_88 rfl rfl (by omega) (by omega) ⟨rfl, sam18, sst18, ssb18, p18⟩
  · have e9 := e_dl_mustBeHeld (g := g) (h := h) (d := d - 1) (sst.dl) (by omega)
    rw [x1] at e9
    refine q_invV (mc' := 1) (ms' := 6) (d' := d - 1) (as := []) dX10_formatDialogue_9 kM_X2_mustBeHeld kL_X10_318 kI_X2_mustBeHeld kS_X2_mustBeHeld rfl (kC_X2.1) sst.c6 rfl rfl (Nat.le_of_ble_eq_true rfl) (by omega) (by decide) (by omega) (by omega) (e9) q_kT (q_xT ?_)
    have hE : x_am_formatDialogue mn mv lc fl = (.inr e1, lc, fl) := by simp only [x_am_formatDialogue, x1]
    rw [hE]
    exact q_xout rfl ⟨rfl, sam.keep (q_same.skip (a := 0) (k := 0)) (by omega), sst.keep (q_same.skip (a := 0) (k := 0)) (by omega), ssb.keep (q_same.skip (a := 0) (k := 0)) (by omega), p0.trans (q_zone.skip (Nat.le_trans hz9 p0.1))⟩ (by omega) (by omega)
