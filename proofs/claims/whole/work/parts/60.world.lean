def z_Cx (h : q_H) (hs : Bool) (se : Int32) (sf : Int32) (s : ZS) (s1 : ZS) (s2 : ZS) (nx : Nat) (kp : Nat) (rw : Nat → ZS) (ca : Int32) (cj : Int32) (co : Nat → Int32) (won : Nat → Int32) (lost : Nat → Int32) (pf : Nat → Int32) (cv : Nat → Int32) (sc : Nat) (pc : Nat) (pp : Nat) (po : Int32) (vb : Nat → Int32) (oa : Nat → Int32) (ob : Nat → Int32) (ic : Nat) (fi : Nat → Int32) (lc : Nat) (fl : Nat → Int32) : Prop :=
  z_Am h 100 hs se sf ∧
  z_S2t h 101 s ∧
  z_S2t h 109 s1 ∧
  z_S2t h 117 s2 ∧
  z_Hs h 125 nx kp rw ∧
  z_Lb h 199 ca cj co ∧
  z_Ga h 201 won lost ∧
  z_Ex h 204 pf cv sc ∧
  z_Pr h 207 pc pp po vb oa ob ∧
  z_Sbs h 211 ic fi lc fl
def z_C (h : q_H) (hs : Bool) (se : Int32) (sf : Int32) (s : ZS) (s1 : ZS) (nx : Nat) (kp : Nat) (rw : Nat → ZS) (ic : Nat) (fi : Nat → Int32) (lc : Nat) (fl : Nat → Int32) : Prop :=
  ∃ (s2 : ZS) (ca : Int32) (cj : Int32) (co : Nat → Int32) (won : Nat → Int32) (lost : Nat → Int32) (pf : Nat → Int32) (cv : Nat → Int32) (sc : Nat) (pc : Nat) (pp : Nat) (po : Int32) (vb : Nat → Int32) (oa : Nat → Int32) (ob : Nat → Int32), z_Cx h hs se sf s s1 s2 nx kp rw ca cj co won lost pf cv sc pc pp po vb oa ob ic fi lc fl
theorem z_Cx.keep {h h1 : q_H} {hs : Bool} {se : Int32} {sf : Int32} {s : ZS} {s1 : ZS} {s2 : ZS} {nx : Nat} {kp : Nat} {rw : Nat → ZS} {ca : Int32} {cj : Int32} {co : Nat → Int32} {won : Nat → Int32} {lost : Nat → Int32} {pf : Nat → Int32} {cv : Nat → Int32} {sc : Nat} {pc : Nat} {pp : Nat} {po : Int32} {vb : Nat → Int32} {oa : Nat → Int32} {ob : Nat → Int32} {ic : Nat} {fi : Nat → Int32} {lc : Nat} {fl : Nat → Int32} (w : z_Cx h hs se sf s s1 s2 nx kp rw ca cj co won lost pf cv sc pc pp po vb oa ob ic fi lc fl) (q : q_same h h1 215 10) : z_Cx h1 hs se sf s s1 s2 nx kp rw ca cj co won lost pf cv sc pc pp po vb oa ob ic fi lc fl := by
  obtain ⟨w0, w1, w2, w3, w4, w5, w6, w7, w8, w9⟩ := w
  exact ⟨w0.keep q (by omega), w1.keep q (by omega), w2.keep q (by omega), w3.keep q (by omega), w4.keep q (by omega), w5.keep q (by omega), w6.keep q (by omega), w7.keep q (by omega), w8.keep q (by omega), w9.keep q (by omega)⟩
theorem z_C.keep {h h1 : q_H} {hs : Bool} {se : Int32} {sf : Int32} {s : ZS} {s1 : ZS} {nx : Nat} {kp : Nat} {rw : Nat → ZS} {ic : Nat} {fi : Nat → Int32} {lc : Nat} {fl : Nat → Int32} (w : z_C h hs se sf s s1 nx kp rw ic fi lc fl) (q : q_same h h1 215 10) : z_C h1 hs se sf s s1 nx kp rw ic fi lc fl := by
  obtain ⟨s2, ca, cj, co, won, lost, pf, cv, sc, pc, pp, po, vb, oa, ob, w⟩ := w
  exact ⟨s2, ca, cj, co, won, lost, pf, cv, sc, pc, pp, po, vb, oa, ob, w.keep q⟩
theorem z_Mr.keepI {h h1 : q_H} {th : Int32} {al : Nat → Int32} {cg : Nat} {sv : Bool} {rs : Int32} {ac : Int32} {rj : Int32} {ro : Nat → Int32} {ad : Nat → Int32} {bf : Nat → Int32} {ln : Nat → Int32} {lz : Nat} {ip : Nat → Int32} {ty : Nat} {he : Nat} {er : Int32} {ea : Int32} {fa : Int32} {cm : Nat → Int32} {cn : Nat} (s : z_Mr h 215 th al cg sv rs ac rj ro ad bf ln lz ip ty he er ea fa cm cn) (hle : h.1 ≤ h1.1) (hq : ∀ i, 215 ≤ i → i < 223 → h1.2 i = h.2 i) : z_Mr h1 215 th al cg sv rs ac rj ro ad bf ln lz ip ty he er ea fa cm cn := by
  obtain ⟨w0, w1, a1, a2, a3, a4, a5, c0, c1, c2, c3, c4, c5, c6, c7⟩ := s
  exact ⟨w0, Nat.le_trans w1 hle, a1, a2, a3, a4, a5, (hq _ (by omega) (by omega)).trans c0, (hq _ (by omega) (by omega)).trans c1, (hq _ (by omega) (by omega)).trans c2, (hq _ (by omega) (by omega)).trans c3, (hq _ (by omega) (by omega)).trans c4, (hq _ (by omega) (by omega)).trans c5, (hq _ (by omega) (by omega)).trans c6, (hq _ (by omega) (by omega)).trans c7⟩
def z_M (h : q_H) (th : Int32) (al : Nat → Int32) (cg : Nat) (sv : Bool) (ad : Nat → Int32) (ln : Nat → Int32) (lz : Nat) (ip : Nat → Int32) (ty : Nat) (ea : Int32) (fa : Int32) : Prop :=
  ∃ (rs : Int32) (ac : Int32) (rj : Int32) (ro : Nat → Int32) (bf : Nat → Int32) (he : Nat) (er : Int32) (cm : Nat → Int32) (cn : Nat), z_Mr h 215 th al cg sv rs ac rj ro ad bf ln lz ip ty he er ea fa cm cn
theorem z_M.keepI {h h1 : q_H} {th : Int32} {al : Nat → Int32} {cg : Nat} {sv : Bool} {ad : Nat → Int32} {ln : Nat → Int32} {lz : Nat} {ip : Nat → Int32} {ty : Nat} {ea : Int32} {fa : Int32} (s : z_M h th al cg sv ad ln lz ip ty ea fa) (hle : h.1 ≤ h1.1) (hq : ∀ i, 215 ≤ i → i < 223 → h1.2 i = h.2 i) : z_M h1 th al cg sv ad ln lz ip ty ea fa := by
  obtain ⟨rs, ac, rj, ro, bf, he, er, cm, cn, s⟩ := s
  exact ⟨rs, ac, rj, ro, bf, he, er, cm, cn, s.keepI hle hq⟩
set_option maxRecDepth 100000 in
set_option maxHeartbeats 4000000 in
theorem c_addArgument {g : q_G} {h : q_H} {d : Nat} {hs : Bool} {se : Int32} {sf : Int32} {s : ZS} {s1 : ZS} {s2 : ZS} {nx : Nat} {kp : Nat} {rw : Nat → ZS} {ca : Int32} {cj : Int32} {co : Nat → Int32} {won : Nat → Int32} {lost : Nat → Int32} {pf : Nat → Int32} {cv : Nat → Int32} {sc : Nat} {pc : Nat} {pp : Nat} {po : Int32} {vb : Nat → Int32} {oa : Nat → Int32} {ob : Nat → Int32} {ic : Nat} {fi : Nat → Int32} {lc : Nat} {fl : Nat → Int32} (w : z_Cx h hs se sf s s1 s2 nx kp rw ca cj co won lost pf cv sc pc pp po vb oa ob ic fi lc fl) (xa : Int32)  (hd : 12 ≤ d) : q_Spec g mX10_addArgument d 4 24 [.ref (100), .int (xa)] h (q_chg (q_oI ((x_am_addArgument s nx kp rw xa).1)) (fun h1 => z_C h1 hs se sf ((x_am_addArgument s nx kp rw xa).2.1) s1 ((x_am_addArgument s nx kp rw xa).2.2.1) ((x_am_addArgument s nx kp rw xa).2.2.2.1) ((x_am_addArgument s nx kp rw xa).2.2.2.2) ic fi lc fl ∧ q_zone h h1 100 115)) := by
  obtain ⟨sam, sst, ssv, slt, shs, slb, sga, sex, spr, ssb⟩ := w
  have hz := ssb.s0
  refine q_Spec_mono (e_am_addArgument (d := d) sam sst ssv slt shs xa hd) (fun o1 h1 hQ => ?_)
  obtain ⟨e1, n_am, n_st, n_sv, n_lt, n_hs, q9⟩ := hQ
  exact ⟨e1, ⟨_, _, _, _, _, _, _, _, _, _, _, _, _, _, _, n_am, n_st, n_sv, n_lt, n_hs, slb.keep q9 (by omega), sga.keep q9 (by omega), sex.keep q9 (by omega), spr.keep q9 (by omega), ssb.keep q9 (by omega)⟩, (q9.zone hz).wide (by omega) (by omega)⟩
set_option maxRecDepth 100000 in
set_option maxHeartbeats 4000000 in
theorem c_removeArgument {g : q_G} {h : q_H} {d : Nat} {hs : Bool} {se : Int32} {sf : Int32} {s : ZS} {s1 : ZS} {s2 : ZS} {nx : Nat} {kp : Nat} {rw : Nat → ZS} {ca : Int32} {cj : Int32} {co : Nat → Int32} {won : Nat → Int32} {lost : Nat → Int32} {pf : Nat → Int32} {cv : Nat → Int32} {sc : Nat} {pc : Nat} {pp : Nat} {po : Int32} {vb : Nat → Int32} {oa : Nat → Int32} {ob : Nat → Int32} {ic : Nat} {fi : Nat → Int32} {lc : Nat} {fl : Nat → Int32} (w : z_Cx h hs se sf s s1 s2 nx kp rw ca cj co won lost pf cv sc pc pp po vb oa ob ic fi lc fl) (xa : Int32)  (hd : 12 ≤ d) : q_Spec g mX10_removeArgument d 4 24 [.ref (100), .int (xa)] h (q_chg (q_oI ((x_am_removeArgument s nx kp rw xa).1)) (fun h1 => z_C h1 hs se sf ((x_am_removeArgument s nx kp rw xa).2.1) s1 ((x_am_removeArgument s nx kp rw xa).2.2.1) ((x_am_removeArgument s nx kp rw xa).2.2.2.1) ((x_am_removeArgument s nx kp rw xa).2.2.2.2) ic fi lc fl ∧ q_zone h h1 100 115)) := by
  obtain ⟨sam, sst, ssv, slt, shs, slb, sga, sex, spr, ssb⟩ := w
  have hz := ssb.s0
  refine q_Spec_mono (e_am_removeArgument (d := d) sam sst ssv slt shs xa hd) (fun o1 h1 hQ => ?_)
  obtain ⟨e1, n_am, n_st, n_sv, n_lt, n_hs, q9⟩ := hQ
  exact ⟨e1, ⟨_, _, _, _, _, _, _, _, _, _, _, _, _, _, _, n_am, n_st, n_sv, n_lt, n_hs, slb.keep q9 (by omega), sga.keep q9 (by omega), sex.keep q9 (by omega), spr.keep q9 (by omega), ssb.keep q9 (by omega)⟩, (q9.zone hz).wide (by omega) (by omega)⟩
set_option maxRecDepth 100000 in
set_option maxHeartbeats 4000000 in
theorem c_addAttack {g : q_G} {h : q_H} {d : Nat} {hs : Bool} {se : Int32} {sf : Int32} {s : ZS} {s1 : ZS} {s2 : ZS} {nx : Nat} {kp : Nat} {rw : Nat → ZS} {ca : Int32} {cj : Int32} {co : Nat → Int32} {won : Nat → Int32} {lost : Nat → Int32} {pf : Nat → Int32} {cv : Nat → Int32} {sc : Nat} {pc : Nat} {pp : Nat} {po : Int32} {vb : Nat → Int32} {oa : Nat → Int32} {ob : Nat → Int32} {ic : Nat} {fi : Nat → Int32} {lc : Nat} {fl : Nat → Int32} (w : z_Cx h hs se sf s s1 s2 nx kp rw ca cj co won lost pf cv sc pc pp po vb oa ob ic fi lc fl) (xa : Int32) (xb : Int32)  (hd : 12 ≤ d) : q_Spec g mX10_addAttack d 4 24 [.ref (100), .int (xa), .int (xb)] h (q_chg (q_oI ((x_am_addAttack s nx kp rw xa xb).1)) (fun h1 => z_C h1 hs se sf ((x_am_addAttack s nx kp rw xa xb).2.1) s1 ((x_am_addAttack s nx kp rw xa xb).2.2.1) ((x_am_addAttack s nx kp rw xa xb).2.2.2.1) ((x_am_addAttack s nx kp rw xa xb).2.2.2.2) ic fi lc fl ∧ q_zone h h1 100 115)) := by
  obtain ⟨sam, sst, ssv, slt, shs, slb, sga, sex, spr, ssb⟩ := w
  have hz := ssb.s0
  refine q_Spec_mono (e_am_addAttack (d := d) sam sst ssv slt shs xa xb hd) (fun o1 h1 hQ => ?_)
  obtain ⟨e1, n_am, n_st, n_sv, n_lt, n_hs, q9⟩ := hQ
  exact ⟨e1, ⟨_, _, _, _, _, _, _, _, _, _, _, _, _, _, _, n_am, n_st, n_sv, n_lt, n_hs, slb.keep q9 (by omega), sga.keep q9 (by omega), sex.keep q9 (by omega), spr.keep q9 (by omega), ssb.keep q9 (by omega)⟩, (q9.zone hz).wide (by omega) (by omega)⟩
set_option maxRecDepth 100000 in
set_option maxHeartbeats 4000000 in
theorem c_removeAttack {g : q_G} {h : q_H} {d : Nat} {hs : Bool} {se : Int32} {sf : Int32} {s : ZS} {s1 : ZS} {s2 : ZS} {nx : Nat} {kp : Nat} {rw : Nat → ZS} {ca : Int32} {cj : Int32} {co : Nat → Int32} {won : Nat → Int32} {lost : Nat → Int32} {pf : Nat → Int32} {cv : Nat → Int32} {sc : Nat} {pc : Nat} {pp : Nat} {po : Int32} {vb : Nat → Int32} {oa : Nat → Int32} {ob : Nat → Int32} {ic : Nat} {fi : Nat → Int32} {lc : Nat} {fl : Nat → Int32} (w : z_Cx h hs se sf s s1 s2 nx kp rw ca cj co won lost pf cv sc pc pp po vb oa ob ic fi lc fl) (xa : Int32) (xb : Int32)  (hd : 12 ≤ d) : q_Spec g mX10_removeAttack d 4 24 [.ref (100), .int (xa), .int (xb)] h (q_chg (q_oI ((x_am_removeAttack s nx kp rw xa xb).1)) (fun h1 => z_C h1 hs se sf ((x_am_removeAttack s nx kp rw xa xb).2.1) s1 ((x_am_removeAttack s nx kp rw xa xb).2.2.1) ((x_am_removeAttack s nx kp rw xa xb).2.2.2.1) ((x_am_removeAttack s nx kp rw xa xb).2.2.2.2) ic fi lc fl ∧ q_zone h h1 100 115)) := by
  obtain ⟨sam, sst, ssv, slt, shs, slb, sga, sex, spr, ssb⟩ := w
  have hz := ssb.s0
  refine q_Spec_mono (e_am_removeAttack (d := d) sam sst ssv slt shs xa xb hd) (fun o1 h1 hQ => ?_)
  obtain ⟨e1, n_am, n_st, n_sv, n_lt, n_hs, q9⟩ := hQ
  exact ⟨e1, ⟨_, _, _, _, _, _, _, _, _, _, _, _, _, _, _, n_am, n_st, n_sv, n_lt, n_hs, slb.keep q9 (by omega), sga.keep q9 (by omega), sex.keep q9 (by omega), spr.keep q9 (by omega), ssb.keep q9 (by omega)⟩, (q9.zone hz).wide (by omega) (by omega)⟩
set_option maxRecDepth 100000 in
set_option maxHeartbeats 4000000 in
theorem c_setWeight {g : q_G} {h : q_H} {d : Nat} {hs : Bool} {se : Int32} {sf : Int32} {s : ZS} {s1 : ZS} {s2 : ZS} {nx : Nat} {kp : Nat} {rw : Nat → ZS} {ca : Int32} {cj : Int32} {co : Nat → Int32} {won : Nat → Int32} {lost : Nat → Int32} {pf : Nat → Int32} {cv : Nat → Int32} {sc : Nat} {pc : Nat} {pp : Nat} {po : Int32} {vb : Nat → Int32} {oa : Nat → Int32} {ob : Nat → Int32} {ic : Nat} {fi : Nat → Int32} {lc : Nat} {fl : Nat → Int32} (w : z_Cx h hs se sf s s1 s2 nx kp rw ca cj co won lost pf cv sc pc pp po vb oa ob ic fi lc fl) (xa : Int32) (xb : Int32)  (hd : 12 ≤ d) : q_Spec g mX10_setWeight d 4 24 [.ref (100), .int (xa), .int (xb)] h (q_chg (q_oI ((x_am_setWeight s nx kp rw xa xb).1)) (fun h1 => z_C h1 hs se sf ((x_am_setWeight s nx kp rw xa xb).2.1) s1 ((x_am_setWeight s nx kp rw xa xb).2.2.1) ((x_am_setWeight s nx kp rw xa xb).2.2.2.1) ((x_am_setWeight s nx kp rw xa xb).2.2.2.2) ic fi lc fl ∧ q_zone h h1 100 115)) := by
  obtain ⟨sam, sst, ssv, slt, shs, slb, sga, sex, spr, ssb⟩ := w
  have hz := ssb.s0
  refine q_Spec_mono (e_am_setWeight (d := d) sam sst ssv slt shs xa xb hd) (fun o1 h1 hQ => ?_)
  obtain ⟨e1, n_am, n_st, n_sv, n_lt, n_hs, q9⟩ := hQ
  exact ⟨e1, ⟨_, _, _, _, _, _, _, _, _, _, _, _, _, _, _, n_am, n_st, n_sv, n_lt, n_hs, slb.keep q9 (by omega), sga.keep q9 (by omega), sex.keep q9 (by omega), spr.keep q9 (by omega), ssb.keep q9 (by omega)⟩, (q9.zone hz).wide (by omega) (by omega)⟩
set_option maxRecDepth 100000 in
set_option maxHeartbeats 4000000 in
theorem c_renew {g : q_G} {h : q_H} {d : Nat} {hs : Bool} {se : Int32} {sf : Int32} {s : ZS} {s1 : ZS} {s2 : ZS} {nx : Nat} {kp : Nat} {rw : Nat → ZS} {ca : Int32} {cj : Int32} {co : Nat → Int32} {won : Nat → Int32} {lost : Nat → Int32} {pf : Nat → Int32} {cv : Nat → Int32} {sc : Nat} {pc : Nat} {pp : Nat} {po : Int32} {vb : Nat → Int32} {oa : Nat → Int32} {ob : Nat → Int32} {ic : Nat} {fi : Nat → Int32} {lc : Nat} {fl : Nat → Int32} (w : z_Cx h hs se sf s s1 s2 nx kp rw ca cj co won lost pf cv sc pc pp po vb oa ob ic fi lc fl) (xa : Int32)  (hd : 12 ≤ d) : q_Spec g mX10_renew d 4 24 [.ref (100), .int (xa)] h (q_chg (q_oI ((x_am_renew s nx kp rw xa).1)) (fun h1 => z_C h1 hs se sf ((x_am_renew s nx kp rw xa).2.1) s1 ((x_am_renew s nx kp rw xa).2.2.1) ((x_am_renew s nx kp rw xa).2.2.2.1) ((x_am_renew s nx kp rw xa).2.2.2.2) ic fi lc fl ∧ q_zone h h1 100 115)) := by
  obtain ⟨sam, sst, ssv, slt, shs, slb, sga, sex, spr, ssb⟩ := w
  have hz := ssb.s0
  refine q_Spec_mono (e_am_renew (d := d) sam sst ssv slt shs xa hd) (fun o1 h1 hQ => ?_)
  obtain ⟨e1, n_am, n_st, n_sv, n_lt, n_hs, q9⟩ := hQ
  exact ⟨e1, ⟨_, _, _, _, _, _, _, _, _, _, _, _, _, _, _, n_am, n_st, n_sv, n_lt, n_hs, slb.keep q9 (by omega), sga.keep q9 (by omega), sex.keep q9 (by omega), spr.keep q9 (by omega), ssb.keep q9 (by omega)⟩, (q9.zone hz).wide (by omega) (by omega)⟩
set_option maxRecDepth 100000 in
set_option maxHeartbeats 4000000 in
theorem c_startDialogue {g : q_G} {h : q_H} {d : Nat} {hs : Bool} {se : Int32} {sf : Int32} {s : ZS} {s1 : ZS} {s2 : ZS} {nx : Nat} {kp : Nat} {rw : Nat → ZS} {ca : Int32} {cj : Int32} {co : Nat → Int32} {won : Nat → Int32} {lost : Nat → Int32} {pf : Nat → Int32} {cv : Nat → Int32} {sc : Nat} {pc : Nat} {pp : Nat} {po : Int32} {vb : Nat → Int32} {oa : Nat → Int32} {ob : Nat → Int32} {ic : Nat} {fi : Nat → Int32} {lc : Nat} {fl : Nat → Int32} (w : z_Cx h hs se sf s s1 s2 nx kp rw ca cj co won lost pf cv sc pc pp po vb oa ob ic fi lc fl) (xa : Int32)  (hd : 12 ≤ d) : q_Spec g mX10_startDialogue d 4 24 [.ref (100), .int (xa)] h (q_chg (q_oI ((x_am_startDialogue s nx kp rw xa).1)) (fun h1 => z_C h1 hs se sf ((x_am_startDialogue s nx kp rw xa).2.1) s1 ((x_am_startDialogue s nx kp rw xa).2.2.1) ((x_am_startDialogue s nx kp rw xa).2.2.2.1) ((x_am_startDialogue s nx kp rw xa).2.2.2.2) ic fi lc fl ∧ q_zone h h1 100 115)) := by
  obtain ⟨sam, sst, ssv, slt, shs, slb, sga, sex, spr, ssb⟩ := w
  have hz := ssb.s0
  refine q_Spec_mono (e_am_startDialogue (d := d) sam sst ssv slt shs xa hd) (fun o1 h1 hQ => ?_)
  obtain ⟨e1, n_am, n_st, n_sv, n_lt, n_hs, q9⟩ := hQ
  exact ⟨e1, ⟨_, _, _, _, _, _, _, _, _, _, _, _, _, _, _, n_am, n_st, n_sv, n_lt, n_hs, slb.keep q9 (by omega), sga.keep q9 (by omega), sex.keep q9 (by omega), spr.keep q9 (by omega), ssb.keep q9 (by omega)⟩, (q9.zone hz).wide (by omega) (by omega)⟩
set_option maxRecDepth 100000 in
set_option maxHeartbeats 4000000 in
theorem c_move {g : q_G} {h : q_H} {d : Nat} {hs : Bool} {se : Int32} {sf : Int32} {s : ZS} {s1 : ZS} {s2 : ZS} {nx : Nat} {kp : Nat} {rw : Nat → ZS} {ca : Int32} {cj : Int32} {co : Nat → Int32} {won : Nat → Int32} {lost : Nat → Int32} {pf : Nat → Int32} {cv : Nat → Int32} {sc : Nat} {pc : Nat} {pp : Nat} {po : Int32} {vb : Nat → Int32} {oa : Nat → Int32} {ob : Nat → Int32} {ic : Nat} {fi : Nat → Int32} {lc : Nat} {fl : Nat → Int32} (w : z_Cx h hs se sf s s1 s2 nx kp rw ca cj co won lost pf cv sc pc pp po vb oa ob ic fi lc fl) (xa : Int32)  (hd : 12 ≤ d) : q_Spec g mX10_move d 4 24 [.ref (100), .int (xa)] h (q_chg (q_oI ((x_am_move s nx kp rw xa).1)) (fun h1 => z_C h1 hs se sf ((x_am_move s nx kp rw xa).2.1) s1 ((x_am_move s nx kp rw xa).2.2.1) ((x_am_move s nx kp rw xa).2.2.2.1) ((x_am_move s nx kp rw xa).2.2.2.2) ic fi lc fl ∧ q_zone h h1 100 115)) := by
  obtain ⟨sam, sst, ssv, slt, shs, slb, sga, sex, spr, ssb⟩ := w
  have hz := ssb.s0
  refine q_Spec_mono (e_am_move (d := d) sam sst ssv slt shs xa hd) (fun o1 h1 hQ => ?_)
  obtain ⟨e1, n_am, n_st, n_sv, n_lt, n_hs, q9⟩ := hQ
  exact ⟨e1, ⟨_, _, _, _, _, _, _, _, _, _, _, _, _, _, _, n_am, n_st, n_sv, n_lt, n_hs, slb.keep q9 (by omega), sga.keep q9 (by omega), sex.keep q9 (by omega), spr.keep q9 (by omega), ssb.keep q9 (by omega)⟩, (q9.zone hz).wide (by omega) (by omega)⟩
set_option maxRecDepth 100000 in
set_option maxHeartbeats 4000000 in
theorem c_takeBack {g : q_G} {h : q_H} {d : Nat} {hs : Bool} {se : Int32} {sf : Int32} {s : ZS} {s1 : ZS} {s2 : ZS} {nx : Nat} {kp : Nat} {rw : Nat → ZS} {ca : Int32} {cj : Int32} {co : Nat → Int32} {won : Nat → Int32} {lost : Nat → Int32} {pf : Nat → Int32} {cv : Nat → Int32} {sc : Nat} {pc : Nat} {pp : Nat} {po : Int32} {vb : Nat → Int32} {oa : Nat → Int32} {ob : Nat → Int32} {ic : Nat} {fi : Nat → Int32} {lc : Nat} {fl : Nat → Int32} (w : z_Cx h hs se sf s s1 s2 nx kp rw ca cj co won lost pf cv sc pc pp po vb oa ob ic fi lc fl)   (hd : 12 ≤ d) : q_Spec g mX10_takeBack d 4 24 [.ref (100)] h (q_chg (q_oI ((x_am_takeBack s nx kp rw).1)) (fun h1 => z_C h1 hs se sf ((x_am_takeBack s nx kp rw).2.1) s1 ((x_am_takeBack s nx kp rw).2.2.1) ((x_am_takeBack s nx kp rw).2.2.2.1) ((x_am_takeBack s nx kp rw).2.2.2.2) ic fi lc fl ∧ q_zone h h1 100 115)) := by
  obtain ⟨sam, sst, ssv, slt, shs, slb, sga, sex, spr, ssb⟩ := w
  have hz := ssb.s0
  refine q_Spec_mono (e_am_takeBack (d := d) sam sst ssv slt shs hd) (fun o1 h1 hQ => ?_)
  obtain ⟨e1, n_am, n_st, n_sv, n_lt, n_hs, q9⟩ := hQ
  exact ⟨e1, ⟨_, _, _, _, _, _, _, _, _, _, _, _, _, _, _, n_am, n_st, n_sv, n_lt, n_hs, slb.keep q9 (by omega), sga.keep q9 (by omega), sex.keep q9 (by omega), spr.keep q9 (by omega), ssb.keep q9 (by omega)⟩, (q9.zone hz).wide (by omega) (by omega)⟩
set_option maxRecDepth 100000 in
set_option maxHeartbeats 4000000 in
theorem c_endDialogue {g : q_G} {h : q_H} {d : Nat} {hs : Bool} {se : Int32} {sf : Int32} {s : ZS} {s1 : ZS} {s2 : ZS} {nx : Nat} {kp : Nat} {rw : Nat → ZS} {ca : Int32} {cj : Int32} {co : Nat → Int32} {won : Nat → Int32} {lost : Nat → Int32} {pf : Nat → Int32} {cv : Nat → Int32} {sc : Nat} {pc : Nat} {pp : Nat} {po : Int32} {vb : Nat → Int32} {oa : Nat → Int32} {ob : Nat → Int32} {ic : Nat} {fi : Nat → Int32} {lc : Nat} {fl : Nat → Int32} (w : z_Cx h hs se sf s s1 s2 nx kp rw ca cj co won lost pf cv sc pc pp po vb oa ob ic fi lc fl)   (hd : 12 ≤ d) : q_Spec g mX10_endDialogue d 4 24 [.ref (100)] h (q_chg (q_oI ((x_am_endDialogue s nx kp rw).1)) (fun h1 => z_C h1 hs se sf ((x_am_endDialogue s nx kp rw).2.1) s1 ((x_am_endDialogue s nx kp rw).2.2.1) ((x_am_endDialogue s nx kp rw).2.2.2.1) ((x_am_endDialogue s nx kp rw).2.2.2.2) ic fi lc fl ∧ q_zone h h1 100 115)) := by
  obtain ⟨sam, sst, ssv, slt, shs, slb, sga, sex, spr, ssb⟩ := w
  have hz := ssb.s0
  refine q_Spec_mono (e_am_endDialogue (d := d) sam sst ssv slt shs hd) (fun o1 h1 hQ => ?_)
  obtain ⟨e1, n_am, n_st, n_sv, n_lt, n_hs, q9⟩ := hQ
  exact ⟨e1, ⟨_, _, _, _, _, _, _, _, _, _, _, _, _, _, _, n_am, n_st, n_sv, n_lt, n_hs, slb.keep q9 (by omega), sga.keep q9 (by omega), sex.keep q9 (by omega), spr.keep q9 (by omega), ssb.keep q9 (by omega)⟩, (q9.zone hz).wide (by omega) (by omega)⟩
set_option maxRecDepth 100000 in
set_option maxHeartbeats 4000000 in
theorem c_pass {g : q_G} {h : q_H} {d : Nat} {hs : Bool} {se : Int32} {sf : Int32} {s : ZS} {s1 : ZS} {s2 : ZS} {nx : Nat} {kp : Nat} {rw : Nat → ZS} {ca : Int32} {cj : Int32} {co : Nat → Int32} {won : Nat → Int32} {lost : Nat → Int32} {pf : Nat → Int32} {cv : Nat → Int32} {sc : Nat} {pc : Nat} {pp : Nat} {po : Int32} {vb : Nat → Int32} {oa : Nat → Int32} {ob : Nat → Int32} {ic : Nat} {fi : Nat → Int32} {lc : Nat} {fl : Nat → Int32} (w : z_Cx h hs se sf s s1 s2 nx kp rw ca cj co won lost pf cv sc pc pp po vb oa ob ic fi lc fl) (xa : Int32)  (hd : 12 ≤ d) : q_Spec g mX10_pass d 4 24 [.ref (100), .int (xa)] h (q_chg (q_oI ((x_am_pass s nx kp rw xa).1)) (fun h1 => z_C h1 hs se sf ((x_am_pass s nx kp rw xa).2.1) s1 ((x_am_pass s nx kp rw xa).2.2.1) ((x_am_pass s nx kp rw xa).2.2.2.1) ((x_am_pass s nx kp rw xa).2.2.2.2) ic fi lc fl ∧ q_zone h h1 100 115)) := by
  obtain ⟨sam, sst, ssv, slt, shs, slb, sga, sex, spr, ssb⟩ := w
  have hz := ssb.s0
  refine q_Spec_mono (e_am_pass (d := d) sam sst ssv slt shs xa hd) (fun o1 h1 hQ => ?_)
  obtain ⟨e1, n_am, n_st, n_sv, n_lt, n_hs, q9⟩ := hQ
  exact ⟨e1, ⟨_, _, _, _, _, _, _, _, _, _, _, _, _, _, _, n_am, n_st, n_sv, n_lt, n_hs, slb.keep q9 (by omega), sga.keep q9 (by omega), sex.keep q9 (by omega), spr.keep q9 (by omega), ssb.keep q9 (by omega)⟩, (q9.zone hz).wide (by omega) (by omega)⟩
set_option maxRecDepth 100000 in
set_option maxHeartbeats 4000000 in
theorem c_day {g : q_G} {h : q_H} {d : Nat} {hs : Bool} {se : Int32} {sf : Int32} {s : ZS} {s1 : ZS} {s2 : ZS} {nx : Nat} {kp : Nat} {rw : Nat → ZS} {ca : Int32} {cj : Int32} {co : Nat → Int32} {won : Nat → Int32} {lost : Nat → Int32} {pf : Nat → Int32} {cv : Nat → Int32} {sc : Nat} {pc : Nat} {pp : Nat} {po : Int32} {vb : Nat → Int32} {oa : Nat → Int32} {ob : Nat → Int32} {ic : Nat} {fi : Nat → Int32} {lc : Nat} {fl : Nat → Int32} (w : z_Cx h hs se sf s s1 s2 nx kp rw ca cj co won lost pf cv sc pc pp po vb oa ob ic fi lc fl)   (hd : 0 ≤ d) : q_Spec g mX10_day d 0 0 [.ref (100)] h (q_chg (.inl (some (.int ((x_am_day s.2.2.2.2.2.2.2.1))))) (fun h1 => z_C h1 hs se sf s s1 nx kp rw ic fi lc fl ∧ q_zone h h1 100 115)) := by
  obtain ⟨sam, sst, ssv, slt, shs, slb, sga, sex, spr, ssb⟩ := w
  have hz := ssb.s0
  refine q_Spec_mono (e_am_day (d := d) sam sst hd) (fun o1 h1 hQ => ?_)
  obtain ⟨e1, rfl⟩ := hQ
  exact ⟨e1, ⟨⟨s2, ca, cj, co, won, lost, pf, cv, sc, pc, pp, po, vb, oa, ob, sam, sst, ssv, slt, shs, slb, sga, sex, spr, ssb⟩, q_zone.rfl'⟩⟩
set_option maxRecDepth 100000 in
set_option maxHeartbeats 4000000 in
theorem c_argumentCount {g : q_G} {h : q_H} {d : Nat} {hs : Bool} {se : Int32} {sf : Int32} {s : ZS} {s1 : ZS} {s2 : ZS} {nx : Nat} {kp : Nat} {rw : Nat → ZS} {ca : Int32} {cj : Int32} {co : Nat → Int32} {won : Nat → Int32} {lost : Nat → Int32} {pf : Nat → Int32} {cv : Nat → Int32} {sc : Nat} {pc : Nat} {pp : Nat} {po : Int32} {vb : Nat → Int32} {oa : Nat → Int32} {ob : Nat → Int32} {ic : Nat} {fi : Nat → Int32} {lc : Nat} {fl : Nat → Int32} (w : z_Cx h hs se sf s s1 s2 nx kp rw ca cj co won lost pf cv sc pc pp po vb oa ob ic fi lc fl)   (hd : 0 ≤ d) : q_Spec g mX10_argumentCount d 0 0 [.ref (100)] h (q_chg (.inl (some (.int ((x_am_argumentCount s.1))))) (fun h1 => z_C h1 hs se sf s s1 nx kp rw ic fi lc fl ∧ q_zone h h1 100 115)) := by
  obtain ⟨sam, sst, ssv, slt, shs, slb, sga, sex, spr, ssb⟩ := w
  have hz := ssb.s0
  refine q_Spec_mono (e_am_argumentCount (d := d) sam sst hd) (fun o1 h1 hQ => ?_)
  obtain ⟨e1, rfl⟩ := hQ
  exact ⟨e1, ⟨⟨s2, ca, cj, co, won, lost, pf, cv, sc, pc, pp, po, vb, oa, ob, sam, sst, ssv, slt, shs, slb, sga, sex, spr, ssb⟩, q_zone.rfl'⟩⟩
set_option maxRecDepth 100000 in
set_option maxHeartbeats 4000000 in
theorem c_idAt {g : q_G} {h : q_H} {d : Nat} {hs : Bool} {se : Int32} {sf : Int32} {s : ZS} {s1 : ZS} {s2 : ZS} {nx : Nat} {kp : Nat} {rw : Nat → ZS} {ca : Int32} {cj : Int32} {co : Nat → Int32} {won : Nat → Int32} {lost : Nat → Int32} {pf : Nat → Int32} {cv : Nat → Int32} {sc : Nat} {pc : Nat} {pp : Nat} {po : Int32} {vb : Nat → Int32} {oa : Nat → Int32} {ob : Nat → Int32} {ic : Nat} {fi : Nat → Int32} {lc : Nat} {fl : Nat → Int32} (w : z_Cx h hs se sf s s1 s2 nx kp rw ca cj co won lost pf cv sc pc pp po vb oa ob ic fi lc fl) (xp : Int32)  (hd : 7 ≤ d) : q_Spec g mX10_idAt d 1 6 [.ref (100), .int (xp)] h (q_chg (q_oI ((x_am_idAt s.1 s.2.1 xp))) (fun h1 => z_C h1 hs se sf s s1 nx kp rw ic fi lc fl ∧ q_zone h h1 100 115)) := by
  obtain ⟨sam, sst, ssv, slt, shs, slb, sga, sex, spr, ssb⟩ := w
  have hz := ssb.s0
  refine q_Spec_mono (e_am_idAt (d := d) sam sst xp hd) (fun o1 h1 hQ => ?_)
  revert hQ
  rcases x_am_idAt s.1 s.2.1 xp with v | E
  · rintro ⟨e1, rfl⟩
    exact ⟨e1, ⟨⟨s2, ca, cj, co, won, lost, pf, cv, sc, pc, pp, po, vb, oa, ob, sam, sst, ssv, slt, shs, slb, sga, sex, spr, ssb⟩, q_zone.rfl'⟩⟩
  · rintro ⟨e1, rfl⟩
    exact ⟨e1, ⟨s2, ca, cj, co, won, lost, pf, cv, sc, pc, pp, po, vb, oa, ob, sam.keepI (Nat.le_succ _) (fun _ _ _ => rfl), sst.keepI (Nat.le_succ _) (fun _ _ _ => rfl), ssv.keepI (Nat.le_succ _) (fun _ _ _ => rfl), slt.keepI (Nat.le_succ _) (fun _ _ _ => rfl), shs.keepI (Nat.le_succ _) (fun _ _ _ => rfl), slb.keepI (Nat.le_succ _) (fun _ _ _ => rfl), sga.keepI (Nat.le_succ _) (fun _ _ _ => rfl), sex.keepI (Nat.le_succ _) (fun _ _ _ => rfl), spr.keepI (Nat.le_succ _) (fun _ _ _ => rfl), ssb.keep (q_same.skip (a := 215) (k := 10)) (by omega)⟩, q_zone.skip hz⟩
set_option maxRecDepth 100000 in
set_option maxHeartbeats 4000000 in
theorem c_weightOf {g : q_G} {h : q_H} {d : Nat} {hs : Bool} {se : Int32} {sf : Int32} {s : ZS} {s1 : ZS} {s2 : ZS} {nx : Nat} {kp : Nat} {rw : Nat → ZS} {ca : Int32} {cj : Int32} {co : Nat → Int32} {won : Nat → Int32} {lost : Nat → Int32} {pf : Nat → Int32} {cv : Nat → Int32} {sc : Nat} {pc : Nat} {pp : Nat} {po : Int32} {vb : Nat → Int32} {oa : Nat → Int32} {ob : Nat → Int32} {ic : Nat} {fi : Nat → Int32} {lc : Nat} {fl : Nat → Int32} (w : z_Cx h hs se sf s s1 s2 nx kp rw ca cj co won lost pf cv sc pc pp po vb oa ob ic fi lc fl) (xid : Int32)  (hd : 8 ≤ d) : q_Spec g mX10_weightOf d 1 6 [.ref (100), .int (xid)] h (q_chg (q_oI ((x_am_weightOf s.1 s.2.1 s.2.2.1 xid))) (fun h1 => z_C h1 hs se sf s s1 nx kp rw ic fi lc fl ∧ q_zone h h1 100 115)) := by
  obtain ⟨sam, sst, ssv, slt, shs, slb, sga, sex, spr, ssb⟩ := w
  have hz := ssb.s0
  refine q_Spec_mono (e_am_weightOf (d := d) sam sst xid hd) (fun o1 h1 hQ => ?_)
  revert hQ
  rcases x_am_weightOf s.1 s.2.1 s.2.2.1 xid with v | E
  · rintro ⟨e1, rfl⟩
    exact ⟨e1, ⟨⟨s2, ca, cj, co, won, lost, pf, cv, sc, pc, pp, po, vb, oa, ob, sam, sst, ssv, slt, shs, slb, sga, sex, spr, ssb⟩, q_zone.rfl'⟩⟩
  · rintro ⟨e1, rfl⟩
    exact ⟨e1, ⟨s2, ca, cj, co, won, lost, pf, cv, sc, pc, pp, po, vb, oa, ob, sam.keepI (Nat.le_succ _) (fun _ _ _ => rfl), sst.keepI (Nat.le_succ _) (fun _ _ _ => rfl), ssv.keepI (Nat.le_succ _) (fun _ _ _ => rfl), slt.keepI (Nat.le_succ _) (fun _ _ _ => rfl), shs.keepI (Nat.le_succ _) (fun _ _ _ => rfl), slb.keepI (Nat.le_succ _) (fun _ _ _ => rfl), sga.keepI (Nat.le_succ _) (fun _ _ _ => rfl), sex.keepI (Nat.le_succ _) (fun _ _ _ => rfl), spr.keepI (Nat.le_succ _) (fun _ _ _ => rfl), ssb.keep (q_same.skip (a := 215) (k := 10)) (by omega)⟩, q_zone.skip hz⟩
set_option maxRecDepth 100000 in
set_option maxHeartbeats 4000000 in
theorem c_ageOf {g : q_G} {h : q_H} {d : Nat} {hs : Bool} {se : Int32} {sf : Int32} {s : ZS} {s1 : ZS} {s2 : ZS} {nx : Nat} {kp : Nat} {rw : Nat → ZS} {ca : Int32} {cj : Int32} {co : Nat → Int32} {won : Nat → Int32} {lost : Nat → Int32} {pf : Nat → Int32} {cv : Nat → Int32} {sc : Nat} {pc : Nat} {pp : Nat} {po : Int32} {vb : Nat → Int32} {oa : Nat → Int32} {ob : Nat → Int32} {ic : Nat} {fi : Nat → Int32} {lc : Nat} {fl : Nat → Int32} (w : z_Cx h hs se sf s s1 s2 nx kp rw ca cj co won lost pf cv sc pc pp po vb oa ob ic fi lc fl) (xid : Int32)  (hd : 8 ≤ d) : q_Spec g mX10_ageOf d 1 6 [.ref (100), .int (xid)] h (q_chg (q_oI ((x_am_ageOf s.1 s.2.1 s.2.2.2.1 xid))) (fun h1 => z_C h1 hs se sf s s1 nx kp rw ic fi lc fl ∧ q_zone h h1 100 115)) := by
  obtain ⟨sam, sst, ssv, slt, shs, slb, sga, sex, spr, ssb⟩ := w
  have hz := ssb.s0
  refine q_Spec_mono (e_am_ageOf (d := d) sam sst xid hd) (fun o1 h1 hQ => ?_)
  revert hQ
  rcases x_am_ageOf s.1 s.2.1 s.2.2.2.1 xid with v | E
  · rintro ⟨e1, rfl⟩
    exact ⟨e1, ⟨⟨s2, ca, cj, co, won, lost, pf, cv, sc, pc, pp, po, vb, oa, ob, sam, sst, ssv, slt, shs, slb, sga, sex, spr, ssb⟩, q_zone.rfl'⟩⟩
  · rintro ⟨e1, rfl⟩
    exact ⟨e1, ⟨s2, ca, cj, co, won, lost, pf, cv, sc, pc, pp, po, vb, oa, ob, sam.keepI (Nat.le_succ _) (fun _ _ _ => rfl), sst.keepI (Nat.le_succ _) (fun _ _ _ => rfl), ssv.keepI (Nat.le_succ _) (fun _ _ _ => rfl), slt.keepI (Nat.le_succ _) (fun _ _ _ => rfl), shs.keepI (Nat.le_succ _) (fun _ _ _ => rfl), slb.keepI (Nat.le_succ _) (fun _ _ _ => rfl), sga.keepI (Nat.le_succ _) (fun _ _ _ => rfl), sex.keepI (Nat.le_succ _) (fun _ _ _ => rfl), spr.keepI (Nat.le_succ _) (fun _ _ _ => rfl), ssb.keep (q_same.skip (a := 215) (k := 10)) (by omega)⟩, q_zone.skip hz⟩
set_option maxRecDepth 100000 in
set_option maxHeartbeats 4000000 in
theorem c_strengthOf {g : q_G} {h : q_H} {d : Nat} {hs : Bool} {se : Int32} {sf : Int32} {s : ZS} {s1 : ZS} {s2 : ZS} {nx : Nat} {kp : Nat} {rw : Nat → ZS} {ca : Int32} {cj : Int32} {co : Nat → Int32} {won : Nat → Int32} {lost : Nat → Int32} {pf : Nat → Int32} {cv : Nat → Int32} {sc : Nat} {pc : Nat} {pp : Nat} {po : Int32} {vb : Nat → Int32} {oa : Nat → Int32} {ob : Nat → Int32} {ic : Nat} {fi : Nat → Int32} {lc : Nat} {fl : Nat → Int32} (w : z_Cx h hs se sf s s1 s2 nx kp rw ca cj co won lost pf cv sc pc pp po vb oa ob ic fi lc fl) (xid : Int32)  (hd : 8 ≤ d) : q_Spec g mX10_strengthOf d 1 6 [.ref (100), .int (xid)] h (q_chg (q_oI ((x_am_strengthOf s.1 s.2.1 s.2.2.1 s.2.2.2.1 xid))) (fun h1 => z_C h1 hs se sf s s1 nx kp rw ic fi lc fl ∧ q_zone h h1 100 115)) := by
  obtain ⟨sam, sst, ssv, slt, shs, slb, sga, sex, spr, ssb⟩ := w
  have hz := ssb.s0
  refine q_Spec_mono (e_am_strengthOf (d := d) sam sst xid hd) (fun o1 h1 hQ => ?_)
  revert hQ
  rcases x_am_strengthOf s.1 s.2.1 s.2.2.1 s.2.2.2.1 xid with v | E
  · rintro ⟨e1, rfl⟩
    exact ⟨e1, ⟨⟨s2, ca, cj, co, won, lost, pf, cv, sc, pc, pp, po, vb, oa, ob, sam, sst, ssv, slt, shs, slb, sga, sex, spr, ssb⟩, q_zone.rfl'⟩⟩
  · rintro ⟨e1, rfl⟩
    exact ⟨e1, ⟨s2, ca, cj, co, won, lost, pf, cv, sc, pc, pp, po, vb, oa, ob, sam.keepI (Nat.le_succ _) (fun _ _ _ => rfl), sst.keepI (Nat.le_succ _) (fun _ _ _ => rfl), ssv.keepI (Nat.le_succ _) (fun _ _ _ => rfl), slt.keepI (Nat.le_succ _) (fun _ _ _ => rfl), shs.keepI (Nat.le_succ _) (fun _ _ _ => rfl), slb.keepI (Nat.le_succ _) (fun _ _ _ => rfl), sga.keepI (Nat.le_succ _) (fun _ _ _ => rfl), sex.keepI (Nat.le_succ _) (fun _ _ _ => rfl), spr.keepI (Nat.le_succ _) (fun _ _ _ => rfl), ssb.keep (q_same.skip (a := 215) (k := 10)) (by omega)⟩, q_zone.skip hz⟩
set_option maxRecDepth 100000 in
set_option maxHeartbeats 4000000 in
theorem c_attackCount {g : q_G} {h : q_H} {d : Nat} {hs : Bool} {se : Int32} {sf : Int32} {s : ZS} {s1 : ZS} {s2 : ZS} {nx : Nat} {kp : Nat} {rw : Nat → ZS} {ca : Int32} {cj : Int32} {co : Nat → Int32} {won : Nat → Int32} {lost : Nat → Int32} {pf : Nat → Int32} {cv : Nat → Int32} {sc : Nat} {pc : Nat} {pp : Nat} {po : Int32} {vb : Nat → Int32} {oa : Nat → Int32} {ob : Nat → Int32} {ic : Nat} {fi : Nat → Int32} {lc : Nat} {fl : Nat → Int32} (w : z_Cx h hs se sf s s1 s2 nx kp rw ca cj co won lost pf cv sc pc pp po vb oa ob ic fi lc fl)   (hd : 2 ≤ d) : q_Spec g mX10_attackCount d 0 0 [.ref (100)] h (q_chg (.inl (some (.int ((x_am_attackCount s.1 s.2.2.2.2.1))))) (fun h1 => z_C h1 hs se sf s s1 nx kp rw ic fi lc fl ∧ q_zone h h1 100 115)) := by
  obtain ⟨sam, sst, ssv, slt, shs, slb, sga, sex, spr, ssb⟩ := w
  have hz := ssb.s0
  refine q_Spec_mono (e_am_attackCount (d := d) sam sst hd) (fun o1 h1 hQ => ?_)
  obtain ⟨e1, rfl⟩ := hQ
  exact ⟨e1, ⟨⟨s2, ca, cj, co, won, lost, pf, cv, sc, pc, pp, po, vb, oa, ob, sam, sst, ssv, slt, shs, slb, sga, sex, spr, ssb⟩, q_zone.rfl'⟩⟩
set_option maxRecDepth 100000 in
set_option maxHeartbeats 4000000 in
theorem c_hasAttack {g : q_G} {h : q_H} {d : Nat} {hs : Bool} {se : Int32} {sf : Int32} {s : ZS} {s1 : ZS} {s2 : ZS} {nx : Nat} {kp : Nat} {rw : Nat → ZS} {ca : Int32} {cj : Int32} {co : Nat → Int32} {won : Nat → Int32} {lost : Nat → Int32} {pf : Nat → Int32} {cv : Nat → Int32} {sc : Nat} {pc : Nat} {pp : Nat} {po : Int32} {vb : Nat → Int32} {oa : Nat → Int32} {ob : Nat → Int32} {ic : Nat} {fi : Nat → Int32} {lc : Nat} {fl : Nat → Int32} (w : z_Cx h hs se sf s s1 s2 nx kp rw ca cj co won lost pf cv sc pc pp po vb oa ob ic fi lc fl) (xf : Int32) (xt : Int32)  (hd : 8 ≤ d) : q_Spec g mX10_hasAttack d 2 12 [.ref (100), .int (xf), .int (xt)] h (q_chg (q_oB ((x_am_hasAttack s.1 s.2.1 s.2.2.2.2.1 xf xt))) (fun h1 => z_C h1 hs se sf s s1 nx kp rw ic fi lc fl ∧ q_zone h h1 100 115)) := by
  obtain ⟨sam, sst, ssv, slt, shs, slb, sga, sex, spr, ssb⟩ := w
  have hz := ssb.s0
  refine q_Spec_mono (e_am_hasAttack (d := d) sam sst xf xt hd) (fun o1 h1 hQ => ?_)
  revert hQ
  rcases x_am_hasAttack s.1 s.2.1 s.2.2.2.2.1 xf xt with v | E
  · rintro ⟨e1, rfl⟩
    exact ⟨e1, ⟨⟨s2, ca, cj, co, won, lost, pf, cv, sc, pc, pp, po, vb, oa, ob, sam, sst, ssv, slt, shs, slb, sga, sex, spr, ssb⟩, q_zone.rfl'⟩⟩
  · rintro ⟨e1, rfl⟩
    exact ⟨e1, ⟨s2, ca, cj, co, won, lost, pf, cv, sc, pc, pp, po, vb, oa, ob, sam.keepI (Nat.le_succ _) (fun _ _ _ => rfl), sst.keepI (Nat.le_succ _) (fun _ _ _ => rfl), ssv.keepI (Nat.le_succ _) (fun _ _ _ => rfl), slt.keepI (Nat.le_succ _) (fun _ _ _ => rfl), shs.keepI (Nat.le_succ _) (fun _ _ _ => rfl), slb.keepI (Nat.le_succ _) (fun _ _ _ => rfl), sga.keepI (Nat.le_succ _) (fun _ _ _ => rfl), sex.keepI (Nat.le_succ _) (fun _ _ _ => rfl), spr.keepI (Nat.le_succ _) (fun _ _ _ => rfl), ssb.keep (q_same.skip (a := 215) (k := 10)) (by omega)⟩, q_zone.skip hz⟩
set_option maxRecDepth 100000 in
set_option maxHeartbeats 4000000 in
theorem c_isSuccessful {g : q_G} {h : q_H} {d : Nat} {hs : Bool} {se : Int32} {sf : Int32} {s : ZS} {s1 : ZS} {s2 : ZS} {nx : Nat} {kp : Nat} {rw : Nat → ZS} {ca : Int32} {cj : Int32} {co : Nat → Int32} {won : Nat → Int32} {lost : Nat → Int32} {pf : Nat → Int32} {cv : Nat → Int32} {sc : Nat} {pc : Nat} {pp : Nat} {po : Int32} {vb : Nat → Int32} {oa : Nat → Int32} {ob : Nat → Int32} {ic : Nat} {fi : Nat → Int32} {lc : Nat} {fl : Nat → Int32} (w : z_Cx h hs se sf s s1 s2 nx kp rw ca cj co won lost pf cv sc pc pp po vb oa ob ic fi lc fl) (xf : Int32) (xt : Int32)  (hd : 8 ≤ d) : q_Spec g mX10_isSuccessful d 3 18 [.ref (100), .int (xf), .int (xt)] h (q_chg (q_oB ((x_am_isSuccessful s.1 s.2.1 s.2.2.2.2.1 s.2.2.2.2.2.1 xf xt))) (fun h1 => z_C h1 hs se sf s s1 nx kp rw ic fi lc fl ∧ q_zone h h1 100 115)) := by
  obtain ⟨sam, sst, ssv, slt, shs, slb, sga, sex, spr, ssb⟩ := w
  have hz := ssb.s0
  refine q_Spec_mono (e_am_isSuccessful (d := d) sam sst xf xt hd) (fun o1 h1 hQ => ?_)
  revert hQ
  rcases x_am_isSuccessful s.1 s.2.1 s.2.2.2.2.1 s.2.2.2.2.2.1 xf xt with v | E
  · rintro ⟨e1, rfl⟩
    exact ⟨e1, ⟨⟨s2, ca, cj, co, won, lost, pf, cv, sc, pc, pp, po, vb, oa, ob, sam, sst, ssv, slt, shs, slb, sga, sex, spr, ssb⟩, q_zone.rfl'⟩⟩
  · rintro ⟨e1, rfl⟩
    exact ⟨e1, ⟨s2, ca, cj, co, won, lost, pf, cv, sc, pc, pp, po, vb, oa, ob, sam.keepI (Nat.le_succ _) (fun _ _ _ => rfl), sst.keepI (Nat.le_succ _) (fun _ _ _ => rfl), ssv.keepI (Nat.le_succ _) (fun _ _ _ => rfl), slt.keepI (Nat.le_succ _) (fun _ _ _ => rfl), shs.keepI (Nat.le_succ _) (fun _ _ _ => rfl), slb.keepI (Nat.le_succ _) (fun _ _ _ => rfl), sga.keepI (Nat.le_succ _) (fun _ _ _ => rfl), sex.keepI (Nat.le_succ _) (fun _ _ _ => rfl), spr.keepI (Nat.le_succ _) (fun _ _ _ => rfl), ssb.keep (q_same.skip (a := 215) (k := 10)) (by omega)⟩, q_zone.skip hz⟩
set_option maxRecDepth 100000 in
set_option maxHeartbeats 4000000 in
theorem c_successfulCount {g : q_G} {h : q_H} {d : Nat} {hs : Bool} {se : Int32} {sf : Int32} {s : ZS} {s1 : ZS} {s2 : ZS} {nx : Nat} {kp : Nat} {rw : Nat → ZS} {ca : Int32} {cj : Int32} {co : Nat → Int32} {won : Nat → Int32} {lost : Nat → Int32} {pf : Nat → Int32} {cv : Nat → Int32} {sc : Nat} {pc : Nat} {pp : Nat} {po : Int32} {vb : Nat → Int32} {oa : Nat → Int32} {ob : Nat → Int32} {ic : Nat} {fi : Nat → Int32} {lc : Nat} {fl : Nat → Int32} (w : z_Cx h hs se sf s s1 s2 nx kp rw ca cj co won lost pf cv sc pc pp po vb oa ob ic fi lc fl)   (hd : 1 ≤ d) : q_Spec g mX10_successfulCount d 0 0 [.ref (100)] h (q_chg (.inl (some (.int ((x_am_successfulCount s.1 s.2.2.2.2.2.1))))) (fun h1 => z_C h1 hs se sf s s1 nx kp rw ic fi lc fl ∧ q_zone h h1 100 115)) := by
  obtain ⟨sam, sst, ssv, slt, shs, slb, sga, sex, spr, ssb⟩ := w
  have hz := ssb.s0
  refine q_Spec_mono (e_am_successfulCount (d := d) sam sst hd) (fun o1 h1 hQ => ?_)
  obtain ⟨e1, rfl⟩ := hQ
  exact ⟨e1, ⟨⟨s2, ca, cj, co, won, lost, pf, cv, sc, pc, pp, po, vb, oa, ob, sam, sst, ssv, slt, shs, slb, sga, sex, spr, ssb⟩, q_zone.rfl'⟩⟩
set_option maxRecDepth 100000 in
set_option maxHeartbeats 4000000 in
theorem c_attackerCount {g : q_G} {h : q_H} {d : Nat} {hs : Bool} {se : Int32} {sf : Int32} {s : ZS} {s1 : ZS} {s2 : ZS} {nx : Nat} {kp : Nat} {rw : Nat → ZS} {ca : Int32} {cj : Int32} {co : Nat → Int32} {won : Nat → Int32} {lost : Nat → Int32} {pf : Nat → Int32} {cv : Nat → Int32} {sc : Nat} {pc : Nat} {pp : Nat} {po : Int32} {vb : Nat → Int32} {oa : Nat → Int32} {ob : Nat → Int32} {ic : Nat} {fi : Nat → Int32} {lc : Nat} {fl : Nat → Int32} (w : z_Cx h hs se sf s s1 s2 nx kp rw ca cj co won lost pf cv sc pc pp po vb oa ob ic fi lc fl) (xid : Int32)  (hd : 8 ≤ d) : q_Spec g mX10_attackerCount d 1 6 [.ref (100), .int (xid)] h (q_chg (q_oI ((x_am_attackerCount s.1 s.2.1 s.2.2.2.2.2.1 xid))) (fun h1 => z_C h1 hs se sf s s1 nx kp rw ic fi lc fl ∧ q_zone h h1 100 115)) := by
  obtain ⟨sam, sst, ssv, slt, shs, slb, sga, sex, spr, ssb⟩ := w
  have hz := ssb.s0
  refine q_Spec_mono (e_am_attackerCount (d := d) sam sst xid hd) (fun o1 h1 hQ => ?_)
  revert hQ
  rcases x_am_attackerCount s.1 s.2.1 s.2.2.2.2.2.1 xid with v | E
  · rintro ⟨e1, rfl⟩
    exact ⟨e1, ⟨⟨s2, ca, cj, co, won, lost, pf, cv, sc, pc, pp, po, vb, oa, ob, sam, sst, ssv, slt, shs, slb, sga, sex, spr, ssb⟩, q_zone.rfl'⟩⟩
  · rintro ⟨e1, rfl⟩
    exact ⟨e1, ⟨s2, ca, cj, co, won, lost, pf, cv, sc, pc, pp, po, vb, oa, ob, sam.keepI (Nat.le_succ _) (fun _ _ _ => rfl), sst.keepI (Nat.le_succ _) (fun _ _ _ => rfl), ssv.keepI (Nat.le_succ _) (fun _ _ _ => rfl), slt.keepI (Nat.le_succ _) (fun _ _ _ => rfl), shs.keepI (Nat.le_succ _) (fun _ _ _ => rfl), slb.keepI (Nat.le_succ _) (fun _ _ _ => rfl), sga.keepI (Nat.le_succ _) (fun _ _ _ => rfl), sex.keepI (Nat.le_succ _) (fun _ _ _ => rfl), spr.keepI (Nat.le_succ _) (fun _ _ _ => rfl), ssb.keep (q_same.skip (a := 215) (k := 10)) (by omega)⟩, q_zone.skip hz⟩
set_option maxRecDepth 100000 in
set_option maxHeartbeats 4000000 in
theorem c_attackerAt {g : q_G} {h : q_H} {d : Nat} {hs : Bool} {se : Int32} {sf : Int32} {s : ZS} {s1 : ZS} {s2 : ZS} {nx : Nat} {kp : Nat} {rw : Nat → ZS} {ca : Int32} {cj : Int32} {co : Nat → Int32} {won : Nat → Int32} {lost : Nat → Int32} {pf : Nat → Int32} {cv : Nat → Int32} {sc : Nat} {pc : Nat} {pp : Nat} {po : Int32} {vb : Nat → Int32} {oa : Nat → Int32} {ob : Nat → Int32} {ic : Nat} {fi : Nat → Int32} {lc : Nat} {fl : Nat → Int32} (w : z_Cx h hs se sf s s1 s2 nx kp rw ca cj co won lost pf cv sc pc pp po vb oa ob ic fi lc fl) (xid : Int32) (xp : Int32)  (hd : 8 ≤ d) : q_Spec g mX10_attackerAt d 2 12 [.ref (100), .int (xid), .int (xp)] h (q_chg (q_oI ((x_am_attackerAt s.1 s.2.1 s.2.2.2.2.2.1 xid xp))) (fun h1 => z_C h1 hs se sf s s1 nx kp rw ic fi lc fl ∧ q_zone h h1 100 115)) := by
  obtain ⟨sam, sst, ssv, slt, shs, slb, sga, sex, spr, ssb⟩ := w
  have hz := ssb.s0
  refine q_Spec_mono (e_am_attackerAt (d := d) sam sst xid xp hd) (fun o1 h1 hQ => ?_)
  revert hQ
  rcases x_am_attackerAt s.1 s.2.1 s.2.2.2.2.2.1 xid xp with v | E
  · rintro ⟨e1, rfl⟩
    exact ⟨e1, ⟨⟨s2, ca, cj, co, won, lost, pf, cv, sc, pc, pp, po, vb, oa, ob, sam, sst, ssv, slt, shs, slb, sga, sex, spr, ssb⟩, q_zone.rfl'⟩⟩
  · rintro ⟨e1, rfl⟩
    exact ⟨e1, ⟨s2, ca, cj, co, won, lost, pf, cv, sc, pc, pp, po, vb, oa, ob, sam.keepI (Nat.le_succ _) (fun _ _ _ => rfl), sst.keepI (Nat.le_succ _) (fun _ _ _ => rfl), ssv.keepI (Nat.le_succ _) (fun _ _ _ => rfl), slt.keepI (Nat.le_succ _) (fun _ _ _ => rfl), shs.keepI (Nat.le_succ _) (fun _ _ _ => rfl), slb.keepI (Nat.le_succ _) (fun _ _ _ => rfl), sga.keepI (Nat.le_succ _) (fun _ _ _ => rfl), sex.keepI (Nat.le_succ _) (fun _ _ _ => rfl), spr.keepI (Nat.le_succ _) (fun _ _ _ => rfl), ssb.keep (q_same.skip (a := 215) (k := 10)) (by omega)⟩, q_zone.skip hz⟩
set_option maxRecDepth 100000 in
set_option maxHeartbeats 4000000 in
theorem c_status {g : q_G} {h : q_H} {d : Nat} {hs : Bool} {se : Int32} {sf : Int32} {s : ZS} {s1 : ZS} {s2 : ZS} {nx : Nat} {kp : Nat} {rw : Nat → ZS} {ca : Int32} {cj : Int32} {co : Nat → Int32} {won : Nat → Int32} {lost : Nat → Int32} {pf : Nat → Int32} {cv : Nat → Int32} {sc : Nat} {pc : Nat} {pp : Nat} {po : Int32} {vb : Nat → Int32} {oa : Nat → Int32} {ob : Nat → Int32} {ic : Nat} {fi : Nat → Int32} {lc : Nat} {fl : Nat → Int32} (w : z_Cx h hs se sf s s1 s2 nx kp rw ca cj co won lost pf cv sc pc pp po vb oa ob ic fi lc fl) (xid : Int32)  (hd : 8 ≤ d) : q_Spec g mX10_status d 1 6 [.ref (100), .int (xid)] h (q_chg (q_oI ((x_am_status s.1 s.2.1 s.2.2.2.2.2.1 ca cj co xid).1)) (fun h1 => z_C h1 hs se sf s s1 nx kp rw ic fi lc fl ∧ q_zone h h1 100 115)) := by
  obtain ⟨sam, sst, ssv, slt, shs, slb, sga, sex, spr, ssb⟩ := w
  have hz := ssb.s0
  refine q_Spec_mono (e_am_status (d := d) sam sst slb xid hd) (fun o1 h1 hQ => ?_)
  obtain ⟨e1, n_am, n_st, n_lb, q9⟩ := hQ
  have n_st2 : z_S2t h1 101 s := n_st
  exact ⟨e1, ⟨_, _, _, _, _, _, _, _, _, _, _, _, _, _, _, n_am, n_st2, ssv.keep q9 (by omega), slt.keep q9 (by omega), shs.keep q9 (by omega), n_lb, sga.keep q9 (by omega), sex.keep q9 (by omega), spr.keep q9 (by omega), ssb.keep q9 (by omega)⟩, (q9.zone hz).wide (by omega) (by omega)⟩
set_option maxRecDepth 100000 in
set_option maxHeartbeats 4000000 in
theorem c_roundOf {g : q_G} {h : q_H} {d : Nat} {hs : Bool} {se : Int32} {sf : Int32} {s : ZS} {s1 : ZS} {s2 : ZS} {nx : Nat} {kp : Nat} {rw : Nat → ZS} {ca : Int32} {cj : Int32} {co : Nat → Int32} {won : Nat → Int32} {lost : Nat → Int32} {pf : Nat → Int32} {cv : Nat → Int32} {sc : Nat} {pc : Nat} {pp : Nat} {po : Int32} {vb : Nat → Int32} {oa : Nat → Int32} {ob : Nat → Int32} {ic : Nat} {fi : Nat → Int32} {lc : Nat} {fl : Nat → Int32} (w : z_Cx h hs se sf s s1 s2 nx kp rw ca cj co won lost pf cv sc pc pp po vb oa ob ic fi lc fl) (xid : Int32)  (hd : 8 ≤ d) : q_Spec g mX10_roundOf d 2 12 [.ref (100), .int (xid)] h (q_chg (q_oI ((x_am_roundOf s.1 s.2.1 s.2.2.2.2.2.1 ca cj co xid).1)) (fun h1 => z_C h1 hs se sf s s1 nx kp rw ic fi lc fl ∧ q_zone h h1 100 115)) := by
  obtain ⟨sam, sst, ssv, slt, shs, slb, sga, sex, spr, ssb⟩ := w
  have hz := ssb.s0
  refine q_Spec_mono (e_am_roundOf (d := d) sam sst slb xid hd) (fun o1 h1 hQ => ?_)
  obtain ⟨e1, n_am, n_st, n_lb, q9⟩ := hQ
  have n_st2 : z_S2t h1 101 s := n_st
  exact ⟨e1, ⟨_, _, _, _, _, _, _, _, _, _, _, _, _, _, _, n_am, n_st2, ssv.keep q9 (by omega), slt.keep q9 (by omega), shs.keep q9 (by omega), n_lb, sga.keep q9 (by omega), sex.keep q9 (by omega), spr.keep q9 (by omega), ssb.keep q9 (by omega)⟩, (q9.zone hz).wide (by omega) (by omega)⟩
set_option maxRecDepth 100000 in
set_option maxHeartbeats 4000000 in
theorem c_isAcceptedByGame {g : q_G} {h : q_H} {d : Nat} {hs : Bool} {se : Int32} {sf : Int32} {s : ZS} {s1 : ZS} {s2 : ZS} {nx : Nat} {kp : Nat} {rw : Nat → ZS} {ca : Int32} {cj : Int32} {co : Nat → Int32} {won : Nat → Int32} {lost : Nat → Int32} {pf : Nat → Int32} {cv : Nat → Int32} {sc : Nat} {pc : Nat} {pp : Nat} {po : Int32} {vb : Nat → Int32} {oa : Nat → Int32} {ob : Nat → Int32} {ic : Nat} {fi : Nat → Int32} {lc : Nat} {fl : Nat → Int32} (w : z_Cx h hs se sf s s1 s2 nx kp rw ca cj co won lost pf cv sc pc pp po vb oa ob ic fi lc fl) (xid : Int32)  (hd : 20 ≤ d) : q_Spec g mX10_isAcceptedByGame d 1 6 [.ref (100), .int (xid)] h (q_chg (q_oB ((x_am_isAcceptedByGame s.1 s.2.1 s.2.2.2.2.2.1 won lost xid).1)) (fun h1 => z_C h1 hs se sf s s1 nx kp rw ic fi lc fl ∧ q_zone h h1 100 115)) := by
  obtain ⟨sam, sst, ssv, slt, shs, slb, sga, sex, spr, ssb⟩ := w
  have hz := ssb.s0
  refine q_Spec_mono (e_am_isAcceptedByGame (d := d) sam sst sga xid hd) (fun o1 h1 hQ => ?_)
  obtain ⟨e1, n_am, n_st, n_ga, q9⟩ := hQ
  have n_st2 : z_S2t h1 101 s := n_st
  exact ⟨e1, ⟨_, _, _, _, _, _, _, _, _, _, _, _, _, _, _, n_am, n_st2, ssv.keep q9 (by omega), slt.keep q9 (by omega), shs.keep q9 (by omega), slb.keep q9 (by omega), n_ga, sex.keep q9 (by omega), spr.keep q9 (by omega), ssb.keep q9 (by omega)⟩, (q9.zone hz).wide (by omega) (by omega)⟩
set_option maxRecDepth 100000 in
set_option maxHeartbeats 4000000 in
theorem c_canOpponentWin {g : q_G} {h : q_H} {d : Nat} {hs : Bool} {se : Int32} {sf : Int32} {s : ZS} {s1 : ZS} {s2 : ZS} {nx : Nat} {kp : Nat} {rw : Nat → ZS} {ca : Int32} {cj : Int32} {co : Nat → Int32} {won : Nat → Int32} {lost : Nat → Int32} {pf : Nat → Int32} {cv : Nat → Int32} {sc : Nat} {pc : Nat} {pp : Nat} {po : Int32} {vb : Nat → Int32} {oa : Nat → Int32} {ob : Nat → Int32} {ic : Nat} {fi : Nat → Int32} {lc : Nat} {fl : Nat → Int32} (w : z_Cx h hs se sf s s1 s2 nx kp rw ca cj co won lost pf cv sc pc pp po vb oa ob ic fi lc fl) (xid : Int32)  (hd : 21 ≤ d) : q_Spec g mX10_canOpponentWin d 1 6 [.ref (100), .int (xid)] h (q_chg (q_oB ((x_am_canOpponentWin s.1 s.2.1 s.2.2.2.2.2.1 won lost xid).1)) (fun h1 => z_C h1 hs se sf s s1 nx kp rw ic fi lc fl ∧ q_zone h h1 100 115)) := by
  obtain ⟨sam, sst, ssv, slt, shs, slb, sga, sex, spr, ssb⟩ := w
  have hz := ssb.s0
  refine q_Spec_mono (e_am_canOpponentWin (d := d) sam sst sga xid hd) (fun o1 h1 hQ => ?_)
  obtain ⟨e1, n_am, n_st, n_ga, q9⟩ := hQ
  have n_st2 : z_S2t h1 101 s := n_st
  exact ⟨e1, ⟨_, _, _, _, _, _, _, _, _, _, _, _, _, _, _, n_am, n_st2, ssv.keep q9 (by omega), slt.keep q9 (by omega), shs.keep q9 (by omega), slb.keep q9 (by omega), n_ga, sex.keep q9 (by omega), spr.keep q9 (by omega), ssb.keep q9 (by omega)⟩, (q9.zone hz).wide (by omega) (by omega)⟩
set_option maxRecDepth 100000 in
set_option maxHeartbeats 4000000 in
theorem c_acceptedCount {g : q_G} {h : q_H} {d : Nat} {hs : Bool} {se : Int32} {sf : Int32} {s : ZS} {s1 : ZS} {s2 : ZS} {nx : Nat} {kp : Nat} {rw : Nat → ZS} {ca : Int32} {cj : Int32} {co : Nat → Int32} {won : Nat → Int32} {lost : Nat → Int32} {pf : Nat → Int32} {cv : Nat → Int32} {sc : Nat} {pc : Nat} {pp : Nat} {po : Int32} {vb : Nat → Int32} {oa : Nat → Int32} {ob : Nat → Int32} {ic : Nat} {fi : Nat → Int32} {lc : Nat} {fl : Nat → Int32} (w : z_Cx h hs se sf s s1 s2 nx kp rw ca cj co won lost pf cv sc pc pp po vb oa ob ic fi lc fl)   (hd : 4 ≤ d) : q_Spec g mX10_acceptedCount d 0 0 [.ref (100)] h (q_chg (.inl (some (.int ((x_am_acceptedCount s.1 s.2.2.2.2.2.1 co).1)))) (fun h1 => z_C h1 hs se sf s s1 nx kp rw ic fi lc fl ∧ q_zone h h1 100 115)) := by
  obtain ⟨sam, sst, ssv, slt, shs, slb, sga, sex, spr, ssb⟩ := w
  have hz := ssb.s0
  refine q_Spec_mono (e_am_acceptedCount (d := d) sam sst slb hd) (fun o1 h1 hQ => ?_)
  obtain ⟨e1, n_am, n_st, n_lb, q9⟩ := hQ
  have n_st2 : z_S2t h1 101 s := n_st
  exact ⟨e1, ⟨_, _, _, _, _, _, _, _, _, _, _, _, _, _, _, n_am, n_st2, ssv.keep q9 (by omega), slt.keep q9 (by omega), shs.keep q9 (by omega), n_lb, sga.keep q9 (by omega), sex.keep q9 (by omega), spr.keep q9 (by omega), ssb.keep q9 (by omega)⟩, (q9.zone hz).wide (by omega) (by omega)⟩
set_option maxRecDepth 100000 in
set_option maxHeartbeats 4000000 in
theorem c_undecidedCount {g : q_G} {h : q_H} {d : Nat} {hs : Bool} {se : Int32} {sf : Int32} {s : ZS} {s1 : ZS} {s2 : ZS} {nx : Nat} {kp : Nat} {rw : Nat → ZS} {ca : Int32} {cj : Int32} {co : Nat → Int32} {won : Nat → Int32} {lost : Nat → Int32} {pf : Nat → Int32} {cv : Nat → Int32} {sc : Nat} {pc : Nat} {pp : Nat} {po : Int32} {vb : Nat → Int32} {oa : Nat → Int32} {ob : Nat → Int32} {ic : Nat} {fi : Nat → Int32} {lc : Nat} {fl : Nat → Int32} (w : z_Cx h hs se sf s s1 s2 nx kp rw ca cj co won lost pf cv sc pc pp po vb oa ob ic fi lc fl)   (hd : 4 ≤ d) : q_Spec g mX10_undecidedCount d 0 0 [.ref (100)] h (q_chg (.inl (some (.int ((x_am_undecidedCount s.1 s.2.2.2.2.2.1 co).1)))) (fun h1 => z_C h1 hs se sf s s1 nx kp rw ic fi lc fl ∧ q_zone h h1 100 115)) := by
  obtain ⟨sam, sst, ssv, slt, shs, slb, sga, sex, spr, ssb⟩ := w
  have hz := ssb.s0
  refine q_Spec_mono (e_am_undecidedCount (d := d) sam sst slb hd) (fun o1 h1 hQ => ?_)
  obtain ⟨e1, n_am, n_st, n_lb, q9⟩ := hQ
  have n_st2 : z_S2t h1 101 s := n_st
  exact ⟨e1, ⟨_, _, _, _, _, _, _, _, _, _, _, _, _, _, _, n_am, n_st2, ssv.keep q9 (by omega), slt.keep q9 (by omega), shs.keep q9 (by omega), n_lb, sga.keep q9 (by omega), sex.keep q9 (by omega), spr.keep q9 (by omega), ssb.keep q9 (by omega)⟩, (q9.zone hz).wide (by omega) (by omega)⟩
set_option maxRecDepth 100000 in
set_option maxHeartbeats 4000000 in
theorem c_stableCount {g : q_G} {h : q_H} {d : Nat} {hs : Bool} {se : Int32} {sf : Int32} {s : ZS} {s1 : ZS} {s2 : ZS} {nx : Nat} {kp : Nat} {rw : Nat → ZS} {ca : Int32} {cj : Int32} {co : Nat → Int32} {won : Nat → Int32} {lost : Nat → Int32} {pf : Nat → Int32} {cv : Nat → Int32} {sc : Nat} {pc : Nat} {pp : Nat} {po : Int32} {vb : Nat → Int32} {oa : Nat → Int32} {ob : Nat → Int32} {ic : Nat} {fi : Nat → Int32} {lc : Nat} {fl : Nat → Int32} (w : z_Cx h hs se sf s s1 s2 nx kp rw ca cj co won lost pf cv sc pc pp po vb oa ob ic fi lc fl)   (hd : 4 ≤ d) : q_Spec g mX10_stableCount d 0 0 [.ref (100)] h (q_chg (.inl (some (.int ((x_am_stableCount s.1 s.2.2.2.2.2.1))))) (fun h1 => z_C h1 hs se sf s s1 nx kp rw ic fi lc fl ∧ q_zone h h1 100 115)) := by
  obtain ⟨sam, sst, ssv, slt, shs, slb, sga, sex, spr, ssb⟩ := w
  have hz := ssb.s0
  refine q_Spec_mono (e_am_stableCount (d := d) sam sst sex hd) (fun o1 h1 hQ => ?_)
  obtain ⟨e1, rfl⟩ := hQ
  exact ⟨e1, ⟨⟨s2, ca, cj, co, won, lost, pf, cv, sc, pc, pp, po, vb, oa, ob, sam, sst, ssv, slt, shs, slb, sga, sex, spr, ssb⟩, q_zone.rfl'⟩⟩
set_option maxRecDepth 100000 in
set_option maxHeartbeats 4000000 in
theorem c_stableCountByLabels {g : q_G} {h : q_H} {d : Nat} {hs : Bool} {se : Int32} {sf : Int32} {s : ZS} {s1 : ZS} {s2 : ZS} {nx : Nat} {kp : Nat} {rw : Nat → ZS} {ca : Int32} {cj : Int32} {co : Nat → Int32} {won : Nat → Int32} {lost : Nat → Int32} {pf : Nat → Int32} {cv : Nat → Int32} {sc : Nat} {pc : Nat} {pp : Nat} {po : Int32} {vb : Nat → Int32} {oa : Nat → Int32} {ob : Nat → Int32} {ic : Nat} {fi : Nat → Int32} {lc : Nat} {fl : Nat → Int32} (w : z_Cx h hs se sf s s1 s2 nx kp rw ca cj co won lost pf cv sc pc pp po vb oa ob ic fi lc fl)   (hd : 23 ≤ d) : q_Spec g mX10_stableCountByLabels d 0 0 [.ref (100)] h (q_chg (.inl (some (.int ((x_am_stableCountByLabels s.1 s.2.2.2.2.2.1))))) (fun h1 => z_C h1 hs se sf s s1 nx kp rw ic fi lc fl ∧ q_zone h h1 100 115)) := by
  obtain ⟨sam, sst, ssv, slt, shs, slb, sga, sex, spr, ssb⟩ := w
  have hz := ssb.s0
  refine q_Spec_mono (e_am_stableCountByLabels (d := d) sam sst sex hd) (fun o1 h1 hQ => ?_)
  obtain ⟨e1, rfl⟩ := hQ
  exact ⟨e1, ⟨⟨s2, ca, cj, co, won, lost, pf, cv, sc, pc, pp, po, vb, oa, ob, sam, sst, ssv, slt, shs, slb, sga, sex, spr, ssb⟩, q_zone.rfl'⟩⟩
set_option maxRecDepth 100000 in
set_option maxHeartbeats 4000000 in
theorem c_preferredCount {g : q_G} {h : q_H} {d : Nat} {hs : Bool} {se : Int32} {sf : Int32} {s : ZS} {s1 : ZS} {s2 : ZS} {nx : Nat} {kp : Nat} {rw : Nat → ZS} {ca : Int32} {cj : Int32} {co : Nat → Int32} {won : Nat → Int32} {lost : Nat → Int32} {pf : Nat → Int32} {cv : Nat → Int32} {sc : Nat} {pc : Nat} {pp : Nat} {po : Int32} {vb : Nat → Int32} {oa : Nat → Int32} {ob : Nat → Int32} {ic : Nat} {fi : Nat → Int32} {lc : Nat} {fl : Nat → Int32} (w : z_Cx h hs se sf s s1 s2 nx kp rw ca cj co won lost pf cv sc pc pp po vb oa ob ic fi lc fl)   (hd : 4 ≤ d) : q_Spec g mX10_preferredCount d 0 0 [.ref (100)] h (q_chg (.inl (some (.int ((x_am_preferredCount s.1 s.2.2.2.2.2.1 pf cv).1)))) (fun h1 => z_C h1 hs se sf s s1 nx kp rw ic fi lc fl ∧ q_zone h h1 100 115)) := by
  obtain ⟨sam, sst, ssv, slt, shs, slb, sga, sex, spr, ssb⟩ := w
  have hz := ssb.s0
  refine q_Spec_mono (e_am_preferredCount (d := d) sam sst sex hd) (fun o1 h1 hQ => ?_)
  obtain ⟨e1, n_am, n_st, n_ex, q9⟩ := hQ
  have n_st2 : z_S2t h1 101 s := n_st
  exact ⟨e1, ⟨_, _, _, _, _, _, _, _, _, _, _, _, _, _, _, n_am, n_st2, ssv.keep q9 (by omega), slt.keep q9 (by omega), shs.keep q9 (by omega), slb.keep q9 (by omega), sga.keep q9 (by omega), n_ex, spr.keep q9 (by omega), ssb.keep q9 (by omega)⟩, (q9.zone hz).wide (by omega) (by omega)⟩
set_option maxRecDepth 100000 in
set_option maxHeartbeats 4000000 in
theorem c_greatestAdmissible {g : q_G} {h : q_H} {d : Nat} {hs : Bool} {se : Int32} {sf : Int32} {s : ZS} {s1 : ZS} {s2 : ZS} {nx : Nat} {kp : Nat} {rw : Nat → ZS} {ca : Int32} {cj : Int32} {co : Nat → Int32} {won : Nat → Int32} {lost : Nat → Int32} {pf : Nat → Int32} {cv : Nat → Int32} {sc : Nat} {pc : Nat} {pp : Nat} {po : Int32} {vb : Nat → Int32} {oa : Nat → Int32} {ob : Nat → Int32} {ic : Nat} {fi : Nat → Int32} {lc : Nat} {fl : Nat → Int32} (w : z_Cx h hs se sf s s1 s2 nx kp rw ca cj co won lost pf cv sc pc pp po vb oa ob ic fi lc fl)   (hd : 4 ≤ d) : q_Spec g mX10_greatestAdmissible d 0 0 [.ref (100)] h (q_chg (.inl (some (.int ((x_am_greatestAdmissible s.1 s.2.2.2.2.2.1))))) (fun h1 => z_C h1 hs se sf s s1 nx kp rw ic fi lc fl ∧ q_zone h h1 100 115)) := by
  obtain ⟨sam, sst, ssv, slt, shs, slb, sga, sex, spr, ssb⟩ := w
  have hz := ssb.s0
  refine q_Spec_mono (e_am_greatestAdmissible (d := d) sam sst sex hd) (fun o1 h1 hQ => ?_)
  obtain ⟨e1, rfl⟩ := hQ
  exact ⟨e1, ⟨⟨s2, ca, cj, co, won, lost, pf, cv, sc, pc, pp, po, vb, oa, ob, sam, sst, ssv, slt, shs, slb, sga, sex, spr, ssb⟩, q_zone.rfl'⟩⟩
set_option maxRecDepth 100000 in
set_option maxHeartbeats 4000000 in
theorem c_isCredible {g : q_G} {h : q_H} {d : Nat} {hs : Bool} {se : Int32} {sf : Int32} {s : ZS} {s1 : ZS} {s2 : ZS} {nx : Nat} {kp : Nat} {rw : Nat → ZS} {ca : Int32} {cj : Int32} {co : Nat → Int32} {won : Nat → Int32} {lost : Nat → Int32} {pf : Nat → Int32} {cv : Nat → Int32} {sc : Nat} {pc : Nat} {pp : Nat} {po : Int32} {vb : Nat → Int32} {oa : Nat → Int32} {ob : Nat → Int32} {ic : Nat} {fi : Nat → Int32} {lc : Nat} {fl : Nat → Int32} (w : z_Cx h hs se sf s s1 s2 nx kp rw ca cj co won lost pf cv sc pc pp po vb oa ob ic fi lc fl) (xid : Int32)  (hd : 9 ≤ d) : q_Spec g mX10_isCredible d 2 12 [.ref (100), .int (xid)] h (q_chg (q_oB ((x_am_isCredible s.1 s.2.1 s.2.2.2.2.2.1 pf cv sc xid).1)) (fun h1 => z_C h1 hs se sf s s1 nx kp rw ic fi lc fl ∧ q_zone h h1 100 115)) := by
  obtain ⟨sam, sst, ssv, slt, shs, slb, sga, sex, spr, ssb⟩ := w
  have hz := ssb.s0
  refine q_Spec_mono (e_am_isCredible (d := d) sam sst sex xid hd) (fun o1 h1 hQ => ?_)
  obtain ⟨e1, n_am, n_st, n_ex, q9⟩ := hQ
  have n_st2 : z_S2t h1 101 s := n_st
  exact ⟨e1, ⟨_, _, _, _, _, _, _, _, _, _, _, _, _, _, _, n_am, n_st2, ssv.keep q9 (by omega), slt.keep q9 (by omega), shs.keep q9 (by omega), slb.keep q9 (by omega), sga.keep q9 (by omega), n_ex, spr.keep q9 (by omega), ssb.keep q9 (by omega)⟩, (q9.zone hz).wide (by omega) (by omega)⟩
set_option maxRecDepth 100000 in
set_option maxHeartbeats 4000000 in
theorem c_isCertain {g : q_G} {h : q_H} {d : Nat} {hs : Bool} {se : Int32} {sf : Int32} {s : ZS} {s1 : ZS} {s2 : ZS} {nx : Nat} {kp : Nat} {rw : Nat → ZS} {ca : Int32} {cj : Int32} {co : Nat → Int32} {won : Nat → Int32} {lost : Nat → Int32} {pf : Nat → Int32} {cv : Nat → Int32} {sc : Nat} {pc : Nat} {pp : Nat} {po : Int32} {vb : Nat → Int32} {oa : Nat → Int32} {ob : Nat → Int32} {ic : Nat} {fi : Nat → Int32} {lc : Nat} {fl : Nat → Int32} (w : z_Cx h hs se sf s s1 s2 nx kp rw ca cj co won lost pf cv sc pc pp po vb oa ob ic fi lc fl) (xid : Int32)  (hd : 8 ≤ d) : q_Spec g mX10_isCertain d 1 6 [.ref (100), .int (xid)] h (q_chg (q_oB ((x_am_isCertain s.1 s.2.1 s.2.2.2.2.2.1 pf cv sc xid).1)) (fun h1 => z_C h1 hs se sf s s1 nx kp rw ic fi lc fl ∧ q_zone h h1 100 115)) := by
  obtain ⟨sam, sst, ssv, slt, shs, slb, sga, sex, spr, ssb⟩ := w
  have hz := ssb.s0
  refine q_Spec_mono (e_am_isCertain (d := d) sam sst sex xid hd) (fun o1 h1 hQ => ?_)
  obtain ⟨e1, n_am, n_st, n_ex, q9⟩ := hQ
  have n_st2 : z_S2t h1 101 s := n_st
  exact ⟨e1, ⟨_, _, _, _, _, _, _, _, _, _, _, _, _, _, _, n_am, n_st2, ssv.keep q9 (by omega), slt.keep q9 (by omega), shs.keep q9 (by omega), slb.keep q9 (by omega), sga.keep q9 (by omega), n_ex, spr.keep q9 (by omega), ssb.keep q9 (by omega)⟩, (q9.zone hz).wide (by omega) (by omega)⟩
set_option maxRecDepth 100000 in
set_option maxHeartbeats 4000000 in
theorem c_canStandTogether {g : q_G} {h : q_H} {d : Nat} {hs : Bool} {se : Int32} {sf : Int32} {s : ZS} {s1 : ZS} {s2 : ZS} {nx : Nat} {kp : Nat} {rw : Nat → ZS} {ca : Int32} {cj : Int32} {co : Nat → Int32} {won : Nat → Int32} {lost : Nat → Int32} {pf : Nat → Int32} {cv : Nat → Int32} {sc : Nat} {pc : Nat} {pp : Nat} {po : Int32} {vb : Nat → Int32} {oa : Nat → Int32} {ob : Nat → Int32} {ic : Nat} {fi : Nat → Int32} {lc : Nat} {fl : Nat → Int32} (w : z_Cx h hs se sf s s1 s2 nx kp rw ca cj co won lost pf cv sc pc pp po vb oa ob ic fi lc fl) (xid : Int32) (xo : Int32)  (hd : 8 ≤ d) : q_Spec g mX10_canStandTogether d 2 12 [.ref (100), .int (xid), .int (xo)] h (q_chg (q_oB ((x_am_canStandTogether s.1 s.2.1 s.2.2.2.2.2.1 pf cv sc xid xo).1)) (fun h1 => z_C h1 hs se sf s s1 nx kp rw ic fi lc fl ∧ q_zone h h1 100 115)) := by
  obtain ⟨sam, sst, ssv, slt, shs, slb, sga, sex, spr, ssb⟩ := w
  have hz := ssb.s0
  refine q_Spec_mono (e_am_canStandTogether (d := d) sam sst sex xid xo hd) (fun o1 h1 hQ => ?_)
  obtain ⟨e1, n_am, n_st, n_ex, q9⟩ := hQ
  have n_st2 : z_S2t h1 101 s := n_st
  exact ⟨e1, ⟨_, _, _, _, _, _, _, _, _, _, _, _, _, _, _, n_am, n_st2, ssv.keep q9 (by omega), slt.keep q9 (by omega), shs.keep q9 (by omega), slb.keep q9 (by omega), sga.keep q9 (by omega), n_ex, spr.keep q9 (by omega), ssb.keep q9 (by omega)⟩, (q9.zone hz).wide (by omega) (by omega)⟩
set_option maxRecDepth 100000 in
set_option maxHeartbeats 4000000 in
theorem c_hasCycle {g : q_G} {h : q_H} {d : Nat} {hs : Bool} {se : Int32} {sf : Int32} {s : ZS} {s1 : ZS} {s2 : ZS} {nx : Nat} {kp : Nat} {rw : Nat → ZS} {ca : Int32} {cj : Int32} {co : Nat → Int32} {won : Nat → Int32} {lost : Nat → Int32} {pf : Nat → Int32} {cv : Nat → Int32} {sc : Nat} {pc : Nat} {pp : Nat} {po : Int32} {vb : Nat → Int32} {oa : Nat → Int32} {ob : Nat → Int32} {ic : Nat} {fi : Nat → Int32} {lc : Nat} {fl : Nat → Int32} (w : z_Cx h hs se sf s s1 s2 nx kp rw ca cj co won lost pf cv sc pc pp po vb oa ob ic fi lc fl)   (hd : 2 ≤ d) : q_Spec g mX10_hasCycle d 0 0 [.ref (100)] h (q_chg (.inl (some (.int (z_b ((x_am_hasCycle s.1 s.2.2.2.2.2.1)))))) (fun h1 => z_C h1 hs se sf s s1 nx kp rw ic fi lc fl ∧ q_zone h h1 100 115)) := by
  obtain ⟨sam, sst, ssv, slt, shs, slb, sga, sex, spr, ssb⟩ := w
  have hz := ssb.s0
  refine q_Spec_mono (e_am_hasCycle (d := d) sam sst hd) (fun o1 h1 hQ => ?_)
  obtain ⟨e1, rfl⟩ := hQ
  exact ⟨e1, ⟨⟨s2, ca, cj, co, won, lost, pf, cv, sc, pc, pp, po, vb, oa, ob, sam, sst, ssv, slt, shs, slb, sga, sex, spr, ssb⟩, q_zone.rfl'⟩⟩
set_option maxRecDepth 100000 in
set_option maxHeartbeats 4000000 in
theorem c_hasCycleBySearch {g : q_G} {h : q_H} {d : Nat} {hs : Bool} {se : Int32} {sf : Int32} {s : ZS} {s1 : ZS} {s2 : ZS} {nx : Nat} {kp : Nat} {rw : Nat → ZS} {ca : Int32} {cj : Int32} {co : Nat → Int32} {won : Nat → Int32} {lost : Nat → Int32} {pf : Nat → Int32} {cv : Nat → Int32} {sc : Nat} {pc : Nat} {pp : Nat} {po : Int32} {vb : Nat → Int32} {oa : Nat → Int32} {ob : Nat → Int32} {ic : Nat} {fi : Nat → Int32} {lc : Nat} {fl : Nat → Int32} (w : z_Cx h hs se sf s s1 s2 nx kp rw ca cj co won lost pf cv sc pc pp po vb oa ob ic fi lc fl)   (hd : 13 ≤ d) : q_Spec g mX10_hasCycleBySearch d 0 0 [.ref (100)] h (q_chg (.inl (some (.int (z_b ((x_am_hasCycleBySearch s.1 s.2.2.2.2.2.1)))))) (fun h1 => z_C h1 hs se sf s s1 nx kp rw ic fi lc fl ∧ q_zone h h1 100 115)) := by
  obtain ⟨sam, sst, ssv, slt, shs, slb, sga, sex, spr, ssb⟩ := w
  have hz := ssb.s0
  refine q_Spec_mono (e_am_hasCycleBySearch (d := d) sam sst hd) (fun o1 h1 hQ => ?_)
  obtain ⟨e1, rfl⟩ := hQ
  exact ⟨e1, ⟨⟨s2, ca, cj, co, won, lost, pf, cv, sc, pc, pp, po, vb, oa, ob, sam, sst, ssv, slt, shs, slb, sga, sex, spr, ssb⟩, q_zone.rfl'⟩⟩
set_option maxRecDepth 100000 in
set_option maxHeartbeats 4000000 in
theorem c_daysUntilChange {g : q_G} {h : q_H} {d : Nat} {hs : Bool} {se : Int32} {sf : Int32} {s : ZS} {s1 : ZS} {s2 : ZS} {nx : Nat} {kp : Nat} {rw : Nat → ZS} {ca : Int32} {cj : Int32} {co : Nat → Int32} {won : Nat → Int32} {lost : Nat → Int32} {pf : Nat → Int32} {cv : Nat → Int32} {sc : Nat} {pc : Nat} {pp : Nat} {po : Int32} {vb : Nat → Int32} {oa : Nat → Int32} {ob : Nat → Int32} {ic : Nat} {fi : Nat → Int32} {lc : Nat} {fl : Nat → Int32} (w : z_Cx h hs se sf s s1 s2 nx kp rw ca cj co won lost pf cv sc pc pp po vb oa ob ic fi lc fl)   (hd : 7 ≤ d) : q_Spec g mX10_daysUntilChange d 1 6 [.ref (100)] h (q_chg (q_oI ((x_am_daysUntilChange s.1 s.2.1 s.2.2.1 s.2.2.2.1 s.2.2.2.2.1 s.2.2.2.2.2.1 s.2.2.2.2.2.2.1 s.2.2.2.2.2.2.2.1 s.2.2.2.2.2.2.2.2.1 s.2.2.2.2.2.2.2.2.2.1 s.2.2.2.2.2.2.2.2.2.2.1 s.2.2.2.2.2.2.2.2.2.2.2.1 s.2.2.2.2.2.2.2.2.2.2.2.2 s2.2.1 s2.2.2.1 s2.2.2.2.1 s2.2.2.2.2.1 s2.2.2.2.2.2.1 s2.2.2.2.2.2.2.2.2.2.1 co).1)) (fun h1 => z_C h1 hs se sf s s1 nx kp rw ic fi lc fl ∧ q_zone h h1 100 115)) := by
  obtain ⟨sam, sst, ssv, slt, shs, slb, sga, sex, spr, ssb⟩ := w
  have hz := ssb.s0
  refine q_Spec_mono (e_am_daysUntilChange (d := d) sam sst slt shs slb hd) (fun o1 h1 hQ => ?_)
  obtain ⟨e1, n_am, n_st, n_lt, n_hs, n_lb, q9⟩ := hQ
  have n_lt2 : z_S2t h1 117 ((x_am_daysUntilChange s.1 s.2.1 s.2.2.1 s.2.2.2.1 s.2.2.2.2.1 s.2.2.2.2.2.1 s.2.2.2.2.2.2.1 s.2.2.2.2.2.2.2.1 s.2.2.2.2.2.2.2.2.1 s.2.2.2.2.2.2.2.2.2.1 s.2.2.2.2.2.2.2.2.2.2.1 s.2.2.2.2.2.2.2.2.2.2.2.1 s.2.2.2.2.2.2.2.2.2.2.2.2 s2.2.1 s2.2.2.1 s2.2.2.2.1 s2.2.2.2.2.1 s2.2.2.2.2.2.1 s2.2.2.2.2.2.2.2.2.2.1 co).2.1, (x_am_daysUntilChange s.1 s.2.1 s.2.2.1 s.2.2.2.1 s.2.2.2.2.1 s.2.2.2.2.2.1 s.2.2.2.2.2.2.1 s.2.2.2.2.2.2.2.1 s.2.2.2.2.2.2.2.2.1 s.2.2.2.2.2.2.2.2.2.1 s.2.2.2.2.2.2.2.2.2.2.1 s.2.2.2.2.2.2.2.2.2.2.2.1 s.2.2.2.2.2.2.2.2.2.2.2.2 s2.2.1 s2.2.2.1 s2.2.2.2.1 s2.2.2.2.2.1 s2.2.2.2.2.2.1 s2.2.2.2.2.2.2.2.2.2.1 co).2.2.1, (x_am_daysUntilChange s.1 s.2.1 s.2.2.1 s.2.2.2.1 s.2.2.2.2.1 s.2.2.2.2.2.1 s.2.2.2.2.2.2.1 s.2.2.2.2.2.2.2.1 s.2.2.2.2.2.2.2.2.1 s.2.2.2.2.2.2.2.2.2.1 s.2.2.2.2.2.2.2.2.2.2.1 s.2.2.2.2.2.2.2.2.2.2.2.1 s.2.2.2.2.2.2.2.2.2.2.2.2 s2.2.1 s2.2.2.1 s2.2.2.2.1 s2.2.2.2.2.1 s2.2.2.2.2.2.1 s2.2.2.2.2.2.2.2.2.2.1 co).2.2.2.1, (x_am_daysUntilChange s.1 s.2.1 s.2.2.1 s.2.2.2.1 s.2.2.2.2.1 s.2.2.2.2.2.1 s.2.2.2.2.2.2.1 s.2.2.2.2.2.2.2.1 s.2.2.2.2.2.2.2.2.1 s.2.2.2.2.2.2.2.2.2.1 s.2.2.2.2.2.2.2.2.2.2.1 s.2.2.2.2.2.2.2.2.2.2.2.1 s.2.2.2.2.2.2.2.2.2.2.2.2 s2.2.1 s2.2.2.1 s2.2.2.2.1 s2.2.2.2.2.1 s2.2.2.2.2.2.1 s2.2.2.2.2.2.2.2.2.2.1 co).2.2.2.2.1, (x_am_daysUntilChange s.1 s.2.1 s.2.2.1 s.2.2.2.1 s.2.2.2.2.1 s.2.2.2.2.2.1 s.2.2.2.2.2.2.1 s.2.2.2.2.2.2.2.1 s.2.2.2.2.2.2.2.2.1 s.2.2.2.2.2.2.2.2.2.1 s.2.2.2.2.2.2.2.2.2.2.1 s.2.2.2.2.2.2.2.2.2.2.2.1 s.2.2.2.2.2.2.2.2.2.2.2.2 s2.2.1 s2.2.2.1 s2.2.2.2.1 s2.2.2.2.2.1 s2.2.2.2.2.2.1 s2.2.2.2.2.2.2.2.2.2.1 co).2.2.2.2.2.1, (x_am_daysUntilChange s.1 s.2.1 s.2.2.1 s.2.2.2.1 s.2.2.2.2.1 s.2.2.2.2.2.1 s.2.2.2.2.2.2.1 s.2.2.2.2.2.2.2.1 s.2.2.2.2.2.2.2.2.1 s.2.2.2.2.2.2.2.2.2.1 s.2.2.2.2.2.2.2.2.2.2.1 s.2.2.2.2.2.2.2.2.2.2.2.1 s.2.2.2.2.2.2.2.2.2.2.2.2 s2.2.1 s2.2.2.1 s2.2.2.2.1 s2.2.2.2.2.1 s2.2.2.2.2.2.1 s2.2.2.2.2.2.2.2.2.2.1 co).2.2.2.2.2.2.1, (x_am_daysUntilChange s.1 s.2.1 s.2.2.1 s.2.2.2.1 s.2.2.2.2.1 s.2.2.2.2.2.1 s.2.2.2.2.2.2.1 s.2.2.2.2.2.2.2.1 s.2.2.2.2.2.2.2.2.1 s.2.2.2.2.2.2.2.2.2.1 s.2.2.2.2.2.2.2.2.2.2.1 s.2.2.2.2.2.2.2.2.2.2.2.1 s.2.2.2.2.2.2.2.2.2.2.2.2 s2.2.1 s2.2.2.1 s2.2.2.2.1 s2.2.2.2.2.1 s2.2.2.2.2.2.1 s2.2.2.2.2.2.2.2.2.2.1 co).2.2.2.2.2.2.2.1, (x_am_daysUntilChange s.1 s.2.1 s.2.2.1 s.2.2.2.1 s.2.2.2.2.1 s.2.2.2.2.2.1 s.2.2.2.2.2.2.1 s.2.2.2.2.2.2.2.1 s.2.2.2.2.2.2.2.2.1 s.2.2.2.2.2.2.2.2.2.1 s.2.2.2.2.2.2.2.2.2.2.1 s.2.2.2.2.2.2.2.2.2.2.2.1 s.2.2.2.2.2.2.2.2.2.2.2.2 s2.2.1 s2.2.2.1 s2.2.2.2.1 s2.2.2.2.2.1 s2.2.2.2.2.2.1 s2.2.2.2.2.2.2.2.2.2.1 co).2.2.2.2.2.2.2.2.1, (x_am_daysUntilChange s.1 s.2.1 s.2.2.1 s.2.2.2.1 s.2.2.2.2.1 s.2.2.2.2.2.1 s.2.2.2.2.2.2.1 s.2.2.2.2.2.2.2.1 s.2.2.2.2.2.2.2.2.1 s.2.2.2.2.2.2.2.2.2.1 s.2.2.2.2.2.2.2.2.2.2.1 s.2.2.2.2.2.2.2.2.2.2.2.1 s.2.2.2.2.2.2.2.2.2.2.2.2 s2.2.1 s2.2.2.1 s2.2.2.2.1 s2.2.2.2.2.1 s2.2.2.2.2.2.1 s2.2.2.2.2.2.2.2.2.2.1 co).2.2.2.2.2.2.2.2.2.1, (x_am_daysUntilChange s.1 s.2.1 s.2.2.1 s.2.2.2.1 s.2.2.2.2.1 s.2.2.2.2.2.1 s.2.2.2.2.2.2.1 s.2.2.2.2.2.2.2.1 s.2.2.2.2.2.2.2.2.1 s.2.2.2.2.2.2.2.2.2.1 s.2.2.2.2.2.2.2.2.2.2.1 s.2.2.2.2.2.2.2.2.2.2.2.1 s.2.2.2.2.2.2.2.2.2.2.2.2 s2.2.1 s2.2.2.1 s2.2.2.2.1 s2.2.2.2.2.1 s2.2.2.2.2.2.1 s2.2.2.2.2.2.2.2.2.2.1 co).2.2.2.2.2.2.2.2.2.2.1, (x_am_daysUntilChange s.1 s.2.1 s.2.2.1 s.2.2.2.1 s.2.2.2.2.1 s.2.2.2.2.2.1 s.2.2.2.2.2.2.1 s.2.2.2.2.2.2.2.1 s.2.2.2.2.2.2.2.2.1 s.2.2.2.2.2.2.2.2.2.1 s.2.2.2.2.2.2.2.2.2.2.1 s.2.2.2.2.2.2.2.2.2.2.2.1 s.2.2.2.2.2.2.2.2.2.2.2.2 s2.2.1 s2.2.2.1 s2.2.2.2.1 s2.2.2.2.2.1 s2.2.2.2.2.2.1 s2.2.2.2.2.2.2.2.2.2.1 co).2.2.2.2.2.2.2.2.2.2.2.1, (x_am_daysUntilChange s.1 s.2.1 s.2.2.1 s.2.2.2.1 s.2.2.2.2.1 s.2.2.2.2.2.1 s.2.2.2.2.2.2.1 s.2.2.2.2.2.2.2.1 s.2.2.2.2.2.2.2.2.1 s.2.2.2.2.2.2.2.2.2.1 s.2.2.2.2.2.2.2.2.2.2.1 s.2.2.2.2.2.2.2.2.2.2.2.1 s.2.2.2.2.2.2.2.2.2.2.2.2 s2.2.1 s2.2.2.1 s2.2.2.2.1 s2.2.2.2.2.1 s2.2.2.2.2.2.1 s2.2.2.2.2.2.2.2.2.2.1 co).2.2.2.2.2.2.2.2.2.2.2.2.1, (x_am_daysUntilChange s.1 s.2.1 s.2.2.1 s.2.2.2.1 s.2.2.2.2.1 s.2.2.2.2.2.1 s.2.2.2.2.2.2.1 s.2.2.2.2.2.2.2.1 s.2.2.2.2.2.2.2.2.1 s.2.2.2.2.2.2.2.2.2.1 s.2.2.2.2.2.2.2.2.2.2.1 s.2.2.2.2.2.2.2.2.2.2.2.1 s.2.2.2.2.2.2.2.2.2.2.2.2 s2.2.1 s2.2.2.1 s2.2.2.2.1 s2.2.2.2.2.1 s2.2.2.2.2.2.1 s2.2.2.2.2.2.2.2.2.2.1 co).2.2.2.2.2.2.2.2.2.2.2.2.2.1) := n_lt
  have n_st2 : z_S2t h1 101 s := n_st
  exact ⟨e1, ⟨_, _, _, _, _, _, _, _, _, _, _, _, _, _, _, n_am, n_st2, ssv.keep q9 (by omega), n_lt2, n_hs, n_lb, sga.keep q9 (by omega), sex.keep q9 (by omega), spr.keep q9 (by omega), ssb.keep q9 (by omega)⟩, (q9.zone hz).wide (by omega) (by omega)⟩
set_option maxRecDepth 100000 in
set_option maxHeartbeats 4000000 in
theorem c_statusAfter {g : q_G} {h : q_H} {d : Nat} {hs : Bool} {se : Int32} {sf : Int32} {s : ZS} {s1 : ZS} {s2 : ZS} {nx : Nat} {kp : Nat} {rw : Nat → ZS} {ca : Int32} {cj : Int32} {co : Nat → Int32} {won : Nat → Int32} {lost : Nat → Int32} {pf : Nat → Int32} {cv : Nat → Int32} {sc : Nat} {pc : Nat} {pp : Nat} {po : Int32} {vb : Nat → Int32} {oa : Nat → Int32} {ob : Nat → Int32} {ic : Nat} {fi : Nat → Int32} {lc : Nat} {fl : Nat → Int32} (w : z_Cx h hs se sf s s1 s2 nx kp rw ca cj co won lost pf cv sc pc pp po vb oa ob ic fi lc fl) (xid : Int32) (xn : Int32)  (hd : 8 ≤ d) : q_Spec g mX10_statusAfter d 2 12 [.ref (100), .int (xid), .int (xn)] h (q_chg (q_oI ((x_am_statusAfter s.1 s.2.1 s.2.2.1 s.2.2.2.1 s.2.2.2.2.1 s.2.2.2.2.2.1 s.2.2.2.2.2.2.1 s.2.2.2.2.2.2.2.1 s.2.2.2.2.2.2.2.2.1 s.2.2.2.2.2.2.2.2.2.1 s.2.2.2.2.2.2.2.2.2.2.1 s.2.2.2.2.2.2.2.2.2.2.2.1 s.2.2.2.2.2.2.2.2.2.2.2.2 s2.1 s2.2.1 s2.2.2.1 s2.2.2.2.1 s2.2.2.2.2.1 s2.2.2.2.2.2.1 s2.2.2.2.2.2.2.1 s2.2.2.2.2.2.2.2.1 s2.2.2.2.2.2.2.2.2.1 s2.2.2.2.2.2.2.2.2.2.1 s2.2.2.2.2.2.2.2.2.2.2.1 s2.2.2.2.2.2.2.2.2.2.2.2.1 s2.2.2.2.2.2.2.2.2.2.2.2.2 ca cj co xid xn).1)) (fun h1 => z_C h1 hs se sf s s1 nx kp rw ic fi lc fl ∧ q_zone h h1 100 115)) := by
  obtain ⟨sam, sst, ssv, slt, shs, slb, sga, sex, spr, ssb⟩ := w
  have hz := ssb.s0
  refine q_Spec_mono (e_am_statusAfter (d := d) sam sst slt shs slb xid xn hd) (fun o1 h1 hQ => ?_)
  obtain ⟨e1, n_am, n_st, n_lt, n_hs, n_lb, q9⟩ := hQ
  have n_lt2 : z_S2t h1 117 ((x_am_statusAfter s.1 s.2.1 s.2.2.1 s.2.2.2.1 s.2.2.2.2.1 s.2.2.2.2.2.1 s.2.2.2.2.2.2.1 s.2.2.2.2.2.2.2.1 s.2.2.2.2.2.2.2.2.1 s.2.2.2.2.2.2.2.2.2.1 s.2.2.2.2.2.2.2.2.2.2.1 s.2.2.2.2.2.2.2.2.2.2.2.1 s.2.2.2.2.2.2.2.2.2.2.2.2 s2.1 s2.2.1 s2.2.2.1 s2.2.2.2.1 s2.2.2.2.2.1 s2.2.2.2.2.2.1 s2.2.2.2.2.2.2.1 s2.2.2.2.2.2.2.2.1 s2.2.2.2.2.2.2.2.2.1 s2.2.2.2.2.2.2.2.2.2.1 s2.2.2.2.2.2.2.2.2.2.2.1 s2.2.2.2.2.2.2.2.2.2.2.2.1 s2.2.2.2.2.2.2.2.2.2.2.2.2 ca cj co xid xn).2.1, (x_am_statusAfter s.1 s.2.1 s.2.2.1 s.2.2.2.1 s.2.2.2.2.1 s.2.2.2.2.2.1 s.2.2.2.2.2.2.1 s.2.2.2.2.2.2.2.1 s.2.2.2.2.2.2.2.2.1 s.2.2.2.2.2.2.2.2.2.1 s.2.2.2.2.2.2.2.2.2.2.1 s.2.2.2.2.2.2.2.2.2.2.2.1 s.2.2.2.2.2.2.2.2.2.2.2.2 s2.1 s2.2.1 s2.2.2.1 s2.2.2.2.1 s2.2.2.2.2.1 s2.2.2.2.2.2.1 s2.2.2.2.2.2.2.1 s2.2.2.2.2.2.2.2.1 s2.2.2.2.2.2.2.2.2.1 s2.2.2.2.2.2.2.2.2.2.1 s2.2.2.2.2.2.2.2.2.2.2.1 s2.2.2.2.2.2.2.2.2.2.2.2.1 s2.2.2.2.2.2.2.2.2.2.2.2.2 ca cj co xid xn).2.2.1, (x_am_statusAfter s.1 s.2.1 s.2.2.1 s.2.2.2.1 s.2.2.2.2.1 s.2.2.2.2.2.1 s.2.2.2.2.2.2.1 s.2.2.2.2.2.2.2.1 s.2.2.2.2.2.2.2.2.1 s.2.2.2.2.2.2.2.2.2.1 s.2.2.2.2.2.2.2.2.2.2.1 s.2.2.2.2.2.2.2.2.2.2.2.1 s.2.2.2.2.2.2.2.2.2.2.2.2 s2.1 s2.2.1 s2.2.2.1 s2.2.2.2.1 s2.2.2.2.2.1 s2.2.2.2.2.2.1 s2.2.2.2.2.2.2.1 s2.2.2.2.2.2.2.2.1 s2.2.2.2.2.2.2.2.2.1 s2.2.2.2.2.2.2.2.2.2.1 s2.2.2.2.2.2.2.2.2.2.2.1 s2.2.2.2.2.2.2.2.2.2.2.2.1 s2.2.2.2.2.2.2.2.2.2.2.2.2 ca cj co xid xn).2.2.2.1, (x_am_statusAfter s.1 s.2.1 s.2.2.1 s.2.2.2.1 s.2.2.2.2.1 s.2.2.2.2.2.1 s.2.2.2.2.2.2.1 s.2.2.2.2.2.2.2.1 s.2.2.2.2.2.2.2.2.1 s.2.2.2.2.2.2.2.2.2.1 s.2.2.2.2.2.2.2.2.2.2.1 s.2.2.2.2.2.2.2.2.2.2.2.1 s.2.2.2.2.2.2.2.2.2.2.2.2 s2.1 s2.2.1 s2.2.2.1 s2.2.2.2.1 s2.2.2.2.2.1 s2.2.2.2.2.2.1 s2.2.2.2.2.2.2.1 s2.2.2.2.2.2.2.2.1 s2.2.2.2.2.2.2.2.2.1 s2.2.2.2.2.2.2.2.2.2.1 s2.2.2.2.2.2.2.2.2.2.2.1 s2.2.2.2.2.2.2.2.2.2.2.2.1 s2.2.2.2.2.2.2.2.2.2.2.2.2 ca cj co xid xn).2.2.2.2.1, (x_am_statusAfter s.1 s.2.1 s.2.2.1 s.2.2.2.1 s.2.2.2.2.1 s.2.2.2.2.2.1 s.2.2.2.2.2.2.1 s.2.2.2.2.2.2.2.1 s.2.2.2.2.2.2.2.2.1 s.2.2.2.2.2.2.2.2.2.1 s.2.2.2.2.2.2.2.2.2.2.1 s.2.2.2.2.2.2.2.2.2.2.2.1 s.2.2.2.2.2.2.2.2.2.2.2.2 s2.1 s2.2.1 s2.2.2.1 s2.2.2.2.1 s2.2.2.2.2.1 s2.2.2.2.2.2.1 s2.2.2.2.2.2.2.1 s2.2.2.2.2.2.2.2.1 s2.2.2.2.2.2.2.2.2.1 s2.2.2.2.2.2.2.2.2.2.1 s2.2.2.2.2.2.2.2.2.2.2.1 s2.2.2.2.2.2.2.2.2.2.2.2.1 s2.2.2.2.2.2.2.2.2.2.2.2.2 ca cj co xid xn).2.2.2.2.2.1, (x_am_statusAfter s.1 s.2.1 s.2.2.1 s.2.2.2.1 s.2.2.2.2.1 s.2.2.2.2.2.1 s.2.2.2.2.2.2.1 s.2.2.2.2.2.2.2.1 s.2.2.2.2.2.2.2.2.1 s.2.2.2.2.2.2.2.2.2.1 s.2.2.2.2.2.2.2.2.2.2.1 s.2.2.2.2.2.2.2.2.2.2.2.1 s.2.2.2.2.2.2.2.2.2.2.2.2 s2.1 s2.2.1 s2.2.2.1 s2.2.2.2.1 s2.2.2.2.2.1 s2.2.2.2.2.2.1 s2.2.2.2.2.2.2.1 s2.2.2.2.2.2.2.2.1 s2.2.2.2.2.2.2.2.2.1 s2.2.2.2.2.2.2.2.2.2.1 s2.2.2.2.2.2.2.2.2.2.2.1 s2.2.2.2.2.2.2.2.2.2.2.2.1 s2.2.2.2.2.2.2.2.2.2.2.2.2 ca cj co xid xn).2.2.2.2.2.2.1, (x_am_statusAfter s.1 s.2.1 s.2.2.1 s.2.2.2.1 s.2.2.2.2.1 s.2.2.2.2.2.1 s.2.2.2.2.2.2.1 s.2.2.2.2.2.2.2.1 s.2.2.2.2.2.2.2.2.1 s.2.2.2.2.2.2.2.2.2.1 s.2.2.2.2.2.2.2.2.2.2.1 s.2.2.2.2.2.2.2.2.2.2.2.1 s.2.2.2.2.2.2.2.2.2.2.2.2 s2.1 s2.2.1 s2.2.2.1 s2.2.2.2.1 s2.2.2.2.2.1 s2.2.2.2.2.2.1 s2.2.2.2.2.2.2.1 s2.2.2.2.2.2.2.2.1 s2.2.2.2.2.2.2.2.2.1 s2.2.2.2.2.2.2.2.2.2.1 s2.2.2.2.2.2.2.2.2.2.2.1 s2.2.2.2.2.2.2.2.2.2.2.2.1 s2.2.2.2.2.2.2.2.2.2.2.2.2 ca cj co xid xn).2.2.2.2.2.2.2.1, (x_am_statusAfter s.1 s.2.1 s.2.2.1 s.2.2.2.1 s.2.2.2.2.1 s.2.2.2.2.2.1 s.2.2.2.2.2.2.1 s.2.2.2.2.2.2.2.1 s.2.2.2.2.2.2.2.2.1 s.2.2.2.2.2.2.2.2.2.1 s.2.2.2.2.2.2.2.2.2.2.1 s.2.2.2.2.2.2.2.2.2.2.2.1 s.2.2.2.2.2.2.2.2.2.2.2.2 s2.1 s2.2.1 s2.2.2.1 s2.2.2.2.1 s2.2.2.2.2.1 s2.2.2.2.2.2.1 s2.2.2.2.2.2.2.1 s2.2.2.2.2.2.2.2.1 s2.2.2.2.2.2.2.2.2.1 s2.2.2.2.2.2.2.2.2.2.1 s2.2.2.2.2.2.2.2.2.2.2.1 s2.2.2.2.2.2.2.2.2.2.2.2.1 s2.2.2.2.2.2.2.2.2.2.2.2.2 ca cj co xid xn).2.2.2.2.2.2.2.2.1, (x_am_statusAfter s.1 s.2.1 s.2.2.1 s.2.2.2.1 s.2.2.2.2.1 s.2.2.2.2.2.1 s.2.2.2.2.2.2.1 s.2.2.2.2.2.2.2.1 s.2.2.2.2.2.2.2.2.1 s.2.2.2.2.2.2.2.2.2.1 s.2.2.2.2.2.2.2.2.2.2.1 s.2.2.2.2.2.2.2.2.2.2.2.1 s.2.2.2.2.2.2.2.2.2.2.2.2 s2.1 s2.2.1 s2.2.2.1 s2.2.2.2.1 s2.2.2.2.2.1 s2.2.2.2.2.2.1 s2.2.2.2.2.2.2.1 s2.2.2.2.2.2.2.2.1 s2.2.2.2.2.2.2.2.2.1 s2.2.2.2.2.2.2.2.2.2.1 s2.2.2.2.2.2.2.2.2.2.2.1 s2.2.2.2.2.2.2.2.2.2.2.2.1 s2.2.2.2.2.2.2.2.2.2.2.2.2 ca cj co xid xn).2.2.2.2.2.2.2.2.2.1, (x_am_statusAfter s.1 s.2.1 s.2.2.1 s.2.2.2.1 s.2.2.2.2.1 s.2.2.2.2.2.1 s.2.2.2.2.2.2.1 s.2.2.2.2.2.2.2.1 s.2.2.2.2.2.2.2.2.1 s.2.2.2.2.2.2.2.2.2.1 s.2.2.2.2.2.2.2.2.2.2.1 s.2.2.2.2.2.2.2.2.2.2.2.1 s.2.2.2.2.2.2.2.2.2.2.2.2 s2.1 s2.2.1 s2.2.2.1 s2.2.2.2.1 s2.2.2.2.2.1 s2.2.2.2.2.2.1 s2.2.2.2.2.2.2.1 s2.2.2.2.2.2.2.2.1 s2.2.2.2.2.2.2.2.2.1 s2.2.2.2.2.2.2.2.2.2.1 s2.2.2.2.2.2.2.2.2.2.2.1 s2.2.2.2.2.2.2.2.2.2.2.2.1 s2.2.2.2.2.2.2.2.2.2.2.2.2 ca cj co xid xn).2.2.2.2.2.2.2.2.2.2.1, (x_am_statusAfter s.1 s.2.1 s.2.2.1 s.2.2.2.1 s.2.2.2.2.1 s.2.2.2.2.2.1 s.2.2.2.2.2.2.1 s.2.2.2.2.2.2.2.1 s.2.2.2.2.2.2.2.2.1 s.2.2.2.2.2.2.2.2.2.1 s.2.2.2.2.2.2.2.2.2.2.1 s.2.2.2.2.2.2.2.2.2.2.2.1 s.2.2.2.2.2.2.2.2.2.2.2.2 s2.1 s2.2.1 s2.2.2.1 s2.2.2.2.1 s2.2.2.2.2.1 s2.2.2.2.2.2.1 s2.2.2.2.2.2.2.1 s2.2.2.2.2.2.2.2.1 s2.2.2.2.2.2.2.2.2.1 s2.2.2.2.2.2.2.2.2.2.1 s2.2.2.2.2.2.2.2.2.2.2.1 s2.2.2.2.2.2.2.2.2.2.2.2.1 s2.2.2.2.2.2.2.2.2.2.2.2.2 ca cj co xid xn).2.2.2.2.2.2.2.2.2.2.2.1, (x_am_statusAfter s.1 s.2.1 s.2.2.1 s.2.2.2.1 s.2.2.2.2.1 s.2.2.2.2.2.1 s.2.2.2.2.2.2.1 s.2.2.2.2.2.2.2.1 s.2.2.2.2.2.2.2.2.1 s.2.2.2.2.2.2.2.2.2.1 s.2.2.2.2.2.2.2.2.2.2.1 s.2.2.2.2.2.2.2.2.2.2.2.1 s.2.2.2.2.2.2.2.2.2.2.2.2 s2.1 s2.2.1 s2.2.2.1 s2.2.2.2.1 s2.2.2.2.2.1 s2.2.2.2.2.2.1 s2.2.2.2.2.2.2.1 s2.2.2.2.2.2.2.2.1 s2.2.2.2.2.2.2.2.2.1 s2.2.2.2.2.2.2.2.2.2.1 s2.2.2.2.2.2.2.2.2.2.2.1 s2.2.2.2.2.2.2.2.2.2.2.2.1 s2.2.2.2.2.2.2.2.2.2.2.2.2 ca cj co xid xn).2.2.2.2.2.2.2.2.2.2.2.2.1, (x_am_statusAfter s.1 s.2.1 s.2.2.1 s.2.2.2.1 s.2.2.2.2.1 s.2.2.2.2.2.1 s.2.2.2.2.2.2.1 s.2.2.2.2.2.2.2.1 s.2.2.2.2.2.2.2.2.1 s.2.2.2.2.2.2.2.2.2.1 s.2.2.2.2.2.2.2.2.2.2.1 s.2.2.2.2.2.2.2.2.2.2.2.1 s.2.2.2.2.2.2.2.2.2.2.2.2 s2.1 s2.2.1 s2.2.2.1 s2.2.2.2.1 s2.2.2.2.2.1 s2.2.2.2.2.2.1 s2.2.2.2.2.2.2.1 s2.2.2.2.2.2.2.2.1 s2.2.2.2.2.2.2.2.2.1 s2.2.2.2.2.2.2.2.2.2.1 s2.2.2.2.2.2.2.2.2.2.2.1 s2.2.2.2.2.2.2.2.2.2.2.2.1 s2.2.2.2.2.2.2.2.2.2.2.2.2 ca cj co xid xn).2.2.2.2.2.2.2.2.2.2.2.2.2.1) := n_lt
  have n_st2 : z_S2t h1 101 s := n_st
  exact ⟨e1, ⟨_, _, _, _, _, _, _, _, _, _, _, _, _, _, _, n_am, n_st2, ssv.keep q9 (by omega), n_lt2, n_hs, n_lb, sga.keep q9 (by omega), sex.keep q9 (by omega), spr.keep q9 (by omega), ssb.keep q9 (by omega)⟩, (q9.zone hz).wide (by omega) (by omega)⟩
set_option maxRecDepth 100000 in
set_option maxHeartbeats 4000000 in
theorem c_argumentByStrength {g : q_G} {h : q_H} {d : Nat} {hs : Bool} {se : Int32} {sf : Int32} {s : ZS} {s1 : ZS} {s2 : ZS} {nx : Nat} {kp : Nat} {rw : Nat → ZS} {ca : Int32} {cj : Int32} {co : Nat → Int32} {won : Nat → Int32} {lost : Nat → Int32} {pf : Nat → Int32} {cv : Nat → Int32} {sc : Nat} {pc : Nat} {pp : Nat} {po : Int32} {vb : Nat → Int32} {oa : Nat → Int32} {ob : Nat → Int32} {ic : Nat} {fi : Nat → Int32} {lc : Nat} {fl : Nat → Int32} (w : z_Cx h hs se sf s s1 s2 nx kp rw ca cj co won lost pf cv sc pc pp po vb oa ob ic fi lc fl) (xr : Int32)  (hd : 7 ≤ d) : q_Spec g mX10_argumentByStrength d 1 6 [.ref (100), .int (xr)] h (q_chg (q_oI ((x_am_argumentByStrength s.1 s.2.1 s.2.2.1 s.2.2.2.1 s.2.2.2.2.2.1 xr))) (fun h1 => z_C h1 hs se sf s s1 nx kp rw ic fi lc fl ∧ q_zone h h1 100 115)) := by
  obtain ⟨sam, sst, ssv, slt, shs, slb, sga, sex, spr, ssb⟩ := w
  have hz := ssb.s0
  refine q_Spec_mono (e_am_argumentByStrength (d := d) sam sst xr hd) (fun o1 h1 hQ => ?_)
  revert hQ
  rcases x_am_argumentByStrength s.1 s.2.1 s.2.2.1 s.2.2.2.1 s.2.2.2.2.2.1 xr with v | E
  · rintro ⟨e1, rfl⟩
    exact ⟨e1, ⟨⟨s2, ca, cj, co, won, lost, pf, cv, sc, pc, pp, po, vb, oa, ob, sam, sst, ssv, slt, shs, slb, sga, sex, spr, ssb⟩, q_zone.rfl'⟩⟩
  · rintro ⟨e1, rfl⟩
    exact ⟨e1, ⟨s2, ca, cj, co, won, lost, pf, cv, sc, pc, pp, po, vb, oa, ob, sam.keepI (Nat.le_succ _) (fun _ _ _ => rfl), sst.keepI (Nat.le_succ _) (fun _ _ _ => rfl), ssv.keepI (Nat.le_succ _) (fun _ _ _ => rfl), slt.keepI (Nat.le_succ _) (fun _ _ _ => rfl), shs.keepI (Nat.le_succ _) (fun _ _ _ => rfl), slb.keepI (Nat.le_succ _) (fun _ _ _ => rfl), sga.keepI (Nat.le_succ _) (fun _ _ _ => rfl), sex.keepI (Nat.le_succ _) (fun _ _ _ => rfl), spr.keepI (Nat.le_succ _) (fun _ _ _ => rfl), ssb.keep (q_same.skip (a := 215) (k := 10)) (by omega)⟩, q_zone.skip hz⟩
set_option maxRecDepth 100000 in
set_option maxHeartbeats 4000000 in
theorem c_isDialogueHeld {g : q_G} {h : q_H} {d : Nat} {hs : Bool} {se : Int32} {sf : Int32} {s : ZS} {s1 : ZS} {s2 : ZS} {nx : Nat} {kp : Nat} {rw : Nat → ZS} {ca : Int32} {cj : Int32} {co : Nat → Int32} {won : Nat → Int32} {lost : Nat → Int32} {pf : Nat → Int32} {cv : Nat → Int32} {sc : Nat} {pc : Nat} {pp : Nat} {po : Int32} {vb : Nat → Int32} {oa : Nat → Int32} {ob : Nat → Int32} {ic : Nat} {fi : Nat → Int32} {lc : Nat} {fl : Nat → Int32} (w : z_Cx h hs se sf s s1 s2 nx kp rw ca cj co won lost pf cv sc pc pp po vb oa ob ic fi lc fl)   (hd : 1 ≤ d) : q_Spec g mX10_isDialogueHeld d 0 0 [.ref (100)] h (q_chg (.inl (some (.int (z_b ((x_am_isDialogueHeld s.2.2.2.2.2.2.2.2.1)))))) (fun h1 => z_C h1 hs se sf s s1 nx kp rw ic fi lc fl ∧ q_zone h h1 100 115)) := by
  obtain ⟨sam, sst, ssv, slt, shs, slb, sga, sex, spr, ssb⟩ := w
  have hz := ssb.s0
  refine q_Spec_mono (e_am_isDialogueHeld (d := d) sam sst hd) (fun o1 h1 hQ => ?_)
  obtain ⟨e1, rfl⟩ := hQ
  exact ⟨e1, ⟨⟨s2, ca, cj, co, won, lost, pf, cv, sc, pc, pp, po, vb, oa, ob, sam, sst, ssv, slt, shs, slb, sga, sex, spr, ssb⟩, q_zone.rfl'⟩⟩
set_option maxRecDepth 100000 in
set_option maxHeartbeats 4000000 in
theorem c_moveCount {g : q_G} {h : q_H} {d : Nat} {hs : Bool} {se : Int32} {sf : Int32} {s : ZS} {s1 : ZS} {s2 : ZS} {nx : Nat} {kp : Nat} {rw : Nat → ZS} {ca : Int32} {cj : Int32} {co : Nat → Int32} {won : Nat → Int32} {lost : Nat → Int32} {pf : Nat → Int32} {cv : Nat → Int32} {sc : Nat} {pc : Nat} {pp : Nat} {po : Int32} {vb : Nat → Int32} {oa : Nat → Int32} {ob : Nat → Int32} {ic : Nat} {fi : Nat → Int32} {lc : Nat} {fl : Nat → Int32} (w : z_Cx h hs se sf s s1 s2 nx kp rw ca cj co won lost pf cv sc pc pp po vb oa ob ic fi lc fl)   (hd : 0 ≤ d) : q_Spec g mX10_moveCount d 0 0 [.ref (100)] h (q_chg (.inl (some (.int ((x_am_moveCount s.2.2.2.2.2.2.2.2.1))))) (fun h1 => z_C h1 hs se sf s s1 nx kp rw ic fi lc fl ∧ q_zone h h1 100 115)) := by
  obtain ⟨sam, sst, ssv, slt, shs, slb, sga, sex, spr, ssb⟩ := w
  have hz := ssb.s0
  refine q_Spec_mono (e_am_moveCount (d := d) sam sst hd) (fun o1 h1 hQ => ?_)
  obtain ⟨e1, rfl⟩ := hQ
  exact ⟨e1, ⟨⟨s2, ca, cj, co, won, lost, pf, cv, sc, pc, pp, po, vb, oa, ob, sam, sst, ssv, slt, shs, slb, sga, sex, spr, ssb⟩, q_zone.rfl'⟩⟩
set_option maxRecDepth 100000 in
set_option maxHeartbeats 4000000 in
theorem c_moveAt {g : q_G} {h : q_H} {d : Nat} {hs : Bool} {se : Int32} {sf : Int32} {s : ZS} {s1 : ZS} {s2 : ZS} {nx : Nat} {kp : Nat} {rw : Nat → ZS} {ca : Int32} {cj : Int32} {co : Nat → Int32} {won : Nat → Int32} {lost : Nat → Int32} {pf : Nat → Int32} {cv : Nat → Int32} {sc : Nat} {pc : Nat} {pp : Nat} {po : Int32} {vb : Nat → Int32} {oa : Nat → Int32} {ob : Nat → Int32} {ic : Nat} {fi : Nat → Int32} {lc : Nat} {fl : Nat → Int32} (w : z_Cx h hs se sf s s1 s2 nx kp rw ca cj co won lost pf cv sc pc pp po vb oa ob ic fi lc fl) (xp : Int32)  (hd : 7 ≤ d) : q_Spec g mX10_moveAt d 1 6 [.ref (100), .int (xp)] h (q_chg (q_oI ((x_am_moveAt s.2.2.2.2.2.2.2.2.1 s.2.2.2.2.2.2.2.2.2.1 xp))) (fun h1 => z_C h1 hs se sf s s1 nx kp rw ic fi lc fl ∧ q_zone h h1 100 115)) := by
  obtain ⟨sam, sst, ssv, slt, shs, slb, sga, sex, spr, ssb⟩ := w
  have hz := ssb.s0
  refine q_Spec_mono (e_am_moveAt (d := d) sam sst xp hd) (fun o1 h1 hQ => ?_)
  revert hQ
  rcases x_am_moveAt s.2.2.2.2.2.2.2.2.1 s.2.2.2.2.2.2.2.2.2.1 xp with v | E
  · rintro ⟨e1, rfl⟩
    exact ⟨e1, ⟨⟨s2, ca, cj, co, won, lost, pf, cv, sc, pc, pp, po, vb, oa, ob, sam, sst, ssv, slt, shs, slb, sga, sex, spr, ssb⟩, q_zone.rfl'⟩⟩
  · rintro ⟨e1, rfl⟩
    exact ⟨e1, ⟨s2, ca, cj, co, won, lost, pf, cv, sc, pc, pp, po, vb, oa, ob, sam.keepI (Nat.le_succ _) (fun _ _ _ => rfl), sst.keepI (Nat.le_succ _) (fun _ _ _ => rfl), ssv.keepI (Nat.le_succ _) (fun _ _ _ => rfl), slt.keepI (Nat.le_succ _) (fun _ _ _ => rfl), shs.keepI (Nat.le_succ _) (fun _ _ _ => rfl), slb.keepI (Nat.le_succ _) (fun _ _ _ => rfl), sga.keepI (Nat.le_succ _) (fun _ _ _ => rfl), sex.keepI (Nat.le_succ _) (fun _ _ _ => rfl), spr.keepI (Nat.le_succ _) (fun _ _ _ => rfl), ssb.keep (q_same.skip (a := 215) (k := 10)) (by omega)⟩, q_zone.skip hz⟩
set_option maxRecDepth 100000 in
set_option maxHeartbeats 4000000 in
theorem c_canMove {g : q_G} {h : q_H} {d : Nat} {hs : Bool} {se : Int32} {sf : Int32} {s : ZS} {s1 : ZS} {s2 : ZS} {nx : Nat} {kp : Nat} {rw : Nat → ZS} {ca : Int32} {cj : Int32} {co : Nat → Int32} {won : Nat → Int32} {lost : Nat → Int32} {pf : Nat → Int32} {cv : Nat → Int32} {sc : Nat} {pc : Nat} {pp : Nat} {po : Int32} {vb : Nat → Int32} {oa : Nat → Int32} {ob : Nat → Int32} {ic : Nat} {fi : Nat → Int32} {lc : Nat} {fl : Nat → Int32} (w : z_Cx h hs se sf s s1 s2 nx kp rw ca cj co won lost pf cv sc pc pp po vb oa ob ic fi lc fl) (xid : Int32)  (hd : 9 ≤ d) : q_Spec g mX10_canMove d 3 18 [.ref (100), .int (xid)] h (q_chg (q_oB ((x_am_canMove s.1 s.2.1 s.2.2.2.2.2.1 s.2.2.2.2.2.2.2.2.1 s.2.2.2.2.2.2.2.2.2.1 xid))) (fun h1 => z_C h1 hs se sf s s1 nx kp rw ic fi lc fl ∧ q_zone h h1 100 115)) := by
  obtain ⟨sam, sst, ssv, slt, shs, slb, sga, sex, spr, ssb⟩ := w
  have hz := ssb.s0
  refine q_Spec_mono (e_am_canMove (d := d) sam sst xid hd) (fun o1 h1 hQ => ?_)
  revert hQ
  rcases x_am_canMove s.1 s.2.1 s.2.2.2.2.2.1 s.2.2.2.2.2.2.2.2.1 s.2.2.2.2.2.2.2.2.2.1 xid with v | E
  · rintro ⟨e1, rfl⟩
    exact ⟨e1, ⟨⟨s2, ca, cj, co, won, lost, pf, cv, sc, pc, pp, po, vb, oa, ob, sam, sst, ssv, slt, shs, slb, sga, sex, spr, ssb⟩, q_zone.rfl'⟩⟩
  · rintro ⟨e1, rfl⟩
    exact ⟨e1, ⟨s2, ca, cj, co, won, lost, pf, cv, sc, pc, pp, po, vb, oa, ob, sam.keepI (Nat.le_succ _) (fun _ _ _ => rfl), sst.keepI (Nat.le_succ _) (fun _ _ _ => rfl), ssv.keepI (Nat.le_succ _) (fun _ _ _ => rfl), slt.keepI (Nat.le_succ _) (fun _ _ _ => rfl), shs.keepI (Nat.le_succ _) (fun _ _ _ => rfl), slb.keepI (Nat.le_succ _) (fun _ _ _ => rfl), sga.keepI (Nat.le_succ _) (fun _ _ _ => rfl), sex.keepI (Nat.le_succ _) (fun _ _ _ => rfl), spr.keepI (Nat.le_succ _) (fun _ _ _ => rfl), ssb.keep (q_same.skip (a := 215) (k := 10)) (by omega)⟩, q_zone.skip hz⟩
set_option maxRecDepth 100000 in
set_option maxHeartbeats 4000000 in
theorem c_dialogueTotal {g : q_G} {h : q_H} {d : Nat} {hs : Bool} {se : Int32} {sf : Int32} {s : ZS} {s1 : ZS} {s2 : ZS} {nx : Nat} {kp : Nat} {rw : Nat → ZS} {ca : Int32} {cj : Int32} {co : Nat → Int32} {won : Nat → Int32} {lost : Nat → Int32} {pf : Nat → Int32} {cv : Nat → Int32} {sc : Nat} {pc : Nat} {pp : Nat} {po : Int32} {vb : Nat → Int32} {oa : Nat → Int32} {ob : Nat → Int32} {ic : Nat} {fi : Nat → Int32} {lc : Nat} {fl : Nat → Int32} (w : z_Cx h hs se sf s s1 s2 nx kp rw ca cj co won lost pf cv sc pc pp po vb oa ob ic fi lc fl)   (hd : 0 ≤ d) : q_Spec g mX10_dialogueTotal d 0 0 [.ref (100)] h (q_chg (.inl (some (.int ((x_am_dialogueTotal s.2.2.2.2.2.2.2.2.2.2.1))))) (fun h1 => z_C h1 hs se sf s s1 nx kp rw ic fi lc fl ∧ q_zone h h1 100 115)) := by
  obtain ⟨sam, sst, ssv, slt, shs, slb, sga, sex, spr, ssb⟩ := w
  have hz := ssb.s0
  refine q_Spec_mono (e_am_dialogueTotal (d := d) sam sst hd) (fun o1 h1 hQ => ?_)
  obtain ⟨e1, rfl⟩ := hQ
  exact ⟨e1, ⟨⟨s2, ca, cj, co, won, lost, pf, cv, sc, pc, pp, po, vb, oa, ob, sam, sst, ssv, slt, shs, slb, sga, sex, spr, ssb⟩, q_zone.rfl'⟩⟩
set_option maxRecDepth 100000 in
set_option maxHeartbeats 4000000 in
theorem c_proponentWins {g : q_G} {h : q_H} {d : Nat} {hs : Bool} {se : Int32} {sf : Int32} {s : ZS} {s1 : ZS} {s2 : ZS} {nx : Nat} {kp : Nat} {rw : Nat → ZS} {ca : Int32} {cj : Int32} {co : Nat → Int32} {won : Nat → Int32} {lost : Nat → Int32} {pf : Nat → Int32} {cv : Nat → Int32} {sc : Nat} {pc : Nat} {pp : Nat} {po : Int32} {vb : Nat → Int32} {oa : Nat → Int32} {ob : Nat → Int32} {ic : Nat} {fi : Nat → Int32} {lc : Nat} {fl : Nat → Int32} (w : z_Cx h hs se sf s s1 s2 nx kp rw ca cj co won lost pf cv sc pc pp po vb oa ob ic fi lc fl)   (hd : 0 ≤ d) : q_Spec g mX10_proponentWins d 0 0 [.ref (100)] h (q_chg (.inl (some (.int ((x_am_proponentWins s.2.2.2.2.2.2.2.2.2.2.2.1))))) (fun h1 => z_C h1 hs se sf s s1 nx kp rw ic fi lc fl ∧ q_zone h h1 100 115)) := by
  obtain ⟨sam, sst, ssv, slt, shs, slb, sga, sex, spr, ssb⟩ := w
  have hz := ssb.s0
  refine q_Spec_mono (e_am_proponentWins (d := d) sam sst hd) (fun o1 h1 hQ => ?_)
  obtain ⟨e1, rfl⟩ := hQ
  exact ⟨e1, ⟨⟨s2, ca, cj, co, won, lost, pf, cv, sc, pc, pp, po, vb, oa, ob, sam, sst, ssv, slt, shs, slb, sga, sex, spr, ssb⟩, q_zone.rfl'⟩⟩
set_option maxRecDepth 100000 in
set_option maxHeartbeats 4000000 in
theorem c_brokenOffTotal {g : q_G} {h : q_H} {d : Nat} {hs : Bool} {se : Int32} {sf : Int32} {s : ZS} {s1 : ZS} {s2 : ZS} {nx : Nat} {kp : Nat} {rw : Nat → ZS} {ca : Int32} {cj : Int32} {co : Nat → Int32} {won : Nat → Int32} {lost : Nat → Int32} {pf : Nat → Int32} {cv : Nat → Int32} {sc : Nat} {pc : Nat} {pp : Nat} {po : Int32} {vb : Nat → Int32} {oa : Nat → Int32} {ob : Nat → Int32} {ic : Nat} {fi : Nat → Int32} {lc : Nat} {fl : Nat → Int32} (w : z_Cx h hs se sf s s1 s2 nx kp rw ca cj co won lost pf cv sc pc pp po vb oa ob ic fi lc fl)   (hd : 0 ≤ d) : q_Spec g mX10_brokenOffTotal d 0 0 [.ref (100)] h (q_chg (.inl (some (.int ((x_am_brokenOffTotal s.2.2.2.2.2.2.2.2.2.2.2.2))))) (fun h1 => z_C h1 hs se sf s s1 nx kp rw ic fi lc fl ∧ q_zone h h1 100 115)) := by
  obtain ⟨sam, sst, ssv, slt, shs, slb, sga, sex, spr, ssb⟩ := w
  have hz := ssb.s0
  refine q_Spec_mono (e_am_brokenOffTotal (d := d) sam sst hd) (fun o1 h1 hQ => ?_)
  obtain ⟨e1, rfl⟩ := hQ
  exact ⟨e1, ⟨⟨s2, ca, cj, co, won, lost, pf, cv, sc, pc, pp, po, vb, oa, ob, sam, sst, ssv, slt, shs, slb, sga, sex, spr, ssb⟩, q_zone.rfl'⟩⟩
set_option maxRecDepth 100000 in
set_option maxHeartbeats 4000000 in
theorem c_meanStrength {g : q_G} {h : q_H} {d : Nat} {hs : Bool} {se : Int32} {sf : Int32} {s : ZS} {s1 : ZS} {s2 : ZS} {nx : Nat} {kp : Nat} {rw : Nat → ZS} {ca : Int32} {cj : Int32} {co : Nat → Int32} {won : Nat → Int32} {lost : Nat → Int32} {pf : Nat → Int32} {cv : Nat → Int32} {sc : Nat} {pc : Nat} {pp : Nat} {po : Int32} {vb : Nat → Int32} {oa : Nat → Int32} {ob : Nat → Int32} {ic : Nat} {fi : Nat → Int32} {lc : Nat} {fl : Nat → Int32} (w : z_Cx h hs se sf s s1 s2 nx kp rw ca cj co won lost pf cv sc pc pp po vb oa ob ic fi lc fl)  (hnan : z_nanD s.1 (x_am_meanStrength_25 s.2.2.1 s.2.2.2.1 s.1 0 0)) (hd : 7 ≤ d) : q_Spec g mX10_meanStrength d 1 6 [.ref (100)] h (q_chg (q_oD ((x_am_meanStrength s.1 s.2.2.1 s.2.2.2.1))) (fun h1 => z_C h1 hs se sf s s1 nx kp rw ic fi lc fl ∧ q_zone h h1 100 115)) := by
  obtain ⟨sam, sst, ssv, slt, shs, slb, sga, sex, spr, ssb⟩ := w
  have hz := ssb.s0
  refine q_Spec_mono (e_am_meanStrength (d := d) sam sst hnan hd) (fun o1 h1 hQ => ?_)
  revert hQ
  rcases x_am_meanStrength s.1 s.2.2.1 s.2.2.2.1 with v | E
  · rintro ⟨e1, rfl⟩
    exact ⟨e1, ⟨⟨s2, ca, cj, co, won, lost, pf, cv, sc, pc, pp, po, vb, oa, ob, sam, sst, ssv, slt, shs, slb, sga, sex, spr, ssb⟩, q_zone.rfl'⟩⟩
  · rintro ⟨e1, rfl⟩
    exact ⟨e1, ⟨s2, ca, cj, co, won, lost, pf, cv, sc, pc, pp, po, vb, oa, ob, sam.keepI (Nat.le_succ _) (fun _ _ _ => rfl), sst.keepI (Nat.le_succ _) (fun _ _ _ => rfl), ssv.keepI (Nat.le_succ _) (fun _ _ _ => rfl), slt.keepI (Nat.le_succ _) (fun _ _ _ => rfl), shs.keepI (Nat.le_succ _) (fun _ _ _ => rfl), slb.keepI (Nat.le_succ _) (fun _ _ _ => rfl), sga.keepI (Nat.le_succ _) (fun _ _ _ => rfl), sex.keepI (Nat.le_succ _) (fun _ _ _ => rfl), spr.keepI (Nat.le_succ _) (fun _ _ _ => rfl), ssb.keep (q_same.skip (a := 215) (k := 10)) (by omega)⟩, q_zone.skip hz⟩
set_option maxRecDepth 100000 in
set_option maxHeartbeats 4000000 in
theorem c_acceptedShare {g : q_G} {h : q_H} {d : Nat} {hs : Bool} {se : Int32} {sf : Int32} {s : ZS} {s1 : ZS} {s2 : ZS} {nx : Nat} {kp : Nat} {rw : Nat → ZS} {ca : Int32} {cj : Int32} {co : Nat → Int32} {won : Nat → Int32} {lost : Nat → Int32} {pf : Nat → Int32} {cv : Nat → Int32} {sc : Nat} {pc : Nat} {pp : Nat} {po : Int32} {vb : Nat → Int32} {oa : Nat → Int32} {ob : Nat → Int32} {ic : Nat} {fi : Nat → Int32} {lc : Nat} {fl : Nat → Int32} (w : z_Cx h hs se sf s s1 s2 nx kp rw ca cj co won lost pf cv sc pc pp po vb oa ob ic fi lc fl)  (hnan : z_nanF s.1 ((x_am_acceptedCount s.1 s.2.2.2.2.2.1 co).1)) (hd : 7 ≤ d) : q_Spec g mX10_acceptedShare d 1 6 [.ref (100)] h (q_chg (q_oF ((x_am_acceptedShare s.1 s.2.2.2.2.2.1 ca cj co).1)) (fun h1 => z_C h1 hs se sf s s1 nx kp rw ic fi lc fl ∧ q_zone h h1 100 115)) := by
  obtain ⟨sam, sst, ssv, slt, shs, slb, sga, sex, spr, ssb⟩ := w
  have hz := ssb.s0
  refine q_Spec_mono (e_am_acceptedShare (d := d) sam sst slb hnan hd) (fun o1 h1 hQ => ?_)
  obtain ⟨e1, n_am, n_st, n_lb, q9⟩ := hQ
  have n_st2 : z_S2t h1 101 s := n_st
  exact ⟨e1, ⟨_, _, _, _, _, _, _, _, _, _, _, _, _, _, _, n_am, n_st2, ssv.keep q9 (by omega), slt.keep q9 (by omega), shs.keep q9 (by omega), n_lb, sga.keep q9 (by omega), sex.keep q9 (by omega), spr.keep q9 (by omega), ssb.keep q9 (by omega)⟩, (q9.zone hz).wide (by omega) (by omega)⟩
set_option maxRecDepth 100000 in
set_option maxHeartbeats 4000000 in
theorem c_isConsistent {g : q_G} {h : q_H} {d : Nat} {hs : Bool} {se : Int32} {sf : Int32} {s : ZS} {s1 : ZS} {s2 : ZS} {nx : Nat} {kp : Nat} {rw : Nat → ZS} {ca : Int32} {cj : Int32} {co : Nat → Int32} {won : Nat → Int32} {lost : Nat → Int32} {pf : Nat → Int32} {cv : Nat → Int32} {sc : Nat} {pc : Nat} {pp : Nat} {po : Int32} {vb : Nat → Int32} {oa : Nat → Int32} {ob : Nat → Int32} {ic : Nat} {fi : Nat → Int32} {lc : Nat} {fl : Nat → Int32} (w : z_Cx h hs se sf s s1 s2 nx kp rw ca cj co won lost pf cv sc pc pp po vb oa ob ic fi lc fl)   (hd : 24 ≤ d) : q_Spec g mX10_isConsistent d 0 0 [.ref (100)] h (q_chg (.inl (some (.int (z_b ((x_am_isConsistent s.1 s.2.2.2.2.2.1 co won lost).1))))) (fun h1 => z_C h1 hs se sf s s1 nx kp rw ic fi lc fl ∧ q_zone h h1 100 115)) := by
  obtain ⟨sam, sst, ssv, slt, shs, slb, sga, sex, spr, ssb⟩ := w
  have hz := ssb.s0
  refine q_Spec_mono (e_am_isConsistent (d := d) sam sst slb sga sex hd) (fun o1 h1 hQ => ?_)
  obtain ⟨e1, n_am, n_st, n_lb, n_ga, n_ex, q9⟩ := hQ
  have n_st2 : z_S2t h1 101 s := n_st
  exact ⟨e1, ⟨_, _, _, _, _, _, _, _, _, _, _, _, _, _, _, n_am, n_st2, ssv.keep q9 (by omega), slt.keep q9 (by omega), shs.keep q9 (by omega), n_lb, n_ga, n_ex, spr.keep q9 (by omega), ssb.keep q9 (by omega)⟩, (q9.zone hz).wide (by omega) (by omega)⟩
set_option maxRecDepth 100000 in
set_option maxHeartbeats 4000000 in
theorem c_formatArgument {g : q_G} {h : q_H} {d : Nat} {hs : Bool} {se : Int32} {sf : Int32} {s : ZS} {s1 : ZS} {s2 : ZS} {nx : Nat} {kp : Nat} {rw : Nat → ZS} {ca : Int32} {cj : Int32} {co : Nat → Int32} {won : Nat → Int32} {lost : Nat → Int32} {pf : Nat → Int32} {cv : Nat → Int32} {sc : Nat} {pc : Nat} {pp : Nat} {po : Int32} {vb : Nat → Int32} {oa : Nat → Int32} {ob : Nat → Int32} {ic : Nat} {fi : Nat → Int32} {lc : Nat} {fl : Nat → Int32} (w : z_Cx h hs se sf s s1 s2 nx kp rw ca cj co won lost pf cv sc pc pp po vb oa ob ic fi lc fl) (xid : Int32) (hnx : ∀ v, x_st_slotOfKnown s.1 s.2.1 xid = .inl v → ∃ m : Nat, m < 10000 ∧ xid = nI m) (hnid : ∀ j, j < s.1 → ∃ m : Nat, m < 10000 ∧ s.2.1 j = nI m) (hnwt : ∀ j, j < s.1 → ∃ m : Nat, m < 10000 ∧ s.2.2.1 j = nI m) (hnst : ∀ j, j < s.1 → ∃ m : Nat, m < 10000 ∧ x_st_strength s.2.2.1 s.2.2.2.1 j = nI m) (hd : 8 ≤ d) : q_Spec g mX10_formatArgument d 25 6870 [.ref (100), .int (xid)] h (q_chg (q_oI ((x_am_formatArgument s.1 s.2.1 s.2.2.1 s.2.2.2.1 s.2.2.2.2.2.1 ca cj co lc fl xid).1)) (fun h1 => z_C h1 hs se sf s s1 nx kp rw ic fi ((x_am_formatArgument s.1 s.2.1 s.2.2.1 s.2.2.2.1 s.2.2.2.2.2.1 ca cj co lc fl xid).2.2.2.2.1) ((x_am_formatArgument s.1 s.2.1 s.2.2.1 s.2.2.2.1 s.2.2.2.2.2.1 ca cj co lc fl xid).2.2.2.2.2) ∧ q_zone h h1 100 115)) := by
  obtain ⟨sam, sst, ssv, slt, shs, slb, sga, sex, spr, ssb⟩ := w
  have hz := ssb.s0
  refine q_Spec_mono (e_am_formatArgument (d := d) sam sst slb sga sex spr ssb xid hnx hnid hnwt hnst hd) (fun o1 h1 hQ => ?_)
  obtain ⟨e1, n_am, n_st, n_lb, n_ga, n_ex, n_pr, n_sb, q9⟩ := hQ
  have n_st2 : z_S2t h1 101 s := n_st
  exact ⟨e1, ⟨_, _, _, _, _, _, _, _, _, _, _, _, _, _, _, n_am, n_st2, ssv.keepZ q9 (by omega), slt.keepZ q9 (by omega), shs.keepZ q9 (by omega), n_lb, n_ga, n_ex, n_pr, n_sb⟩, q9.wide (by omega) (by omega)⟩
set_option maxRecDepth 100000 in
set_option maxHeartbeats 4000000 in
theorem c_formatDialogue {g : q_G} {h : q_H} {d : Nat} {hs : Bool} {se : Int32} {sf : Int32} {s : ZS} {s1 : ZS} {s2 : ZS} {nx : Nat} {kp : Nat} {rw : Nat → ZS} {ca : Int32} {cj : Int32} {co : Nat → Int32} {won : Nat → Int32} {lost : Nat → Int32} {pf : Nat → Int32} {cv : Nat → Int32} {sc : Nat} {pc : Nat} {pp : Nat} {po : Int32} {vb : Nat → Int32} {oa : Nat → Int32} {ob : Nat → Int32} {ic : Nat} {fi : Nat → Int32} {lc : Nat} {fl : Nat → Int32} (w : z_Cx h hs se sf s s1 s2 nx kp rw ca cj co won lost pf cv sc pc pp po vb oa ob ic fi lc fl)  (hnmv : ∀ j, j < s.2.2.2.2.2.2.2.2.1 → ∃ m : Nat, m < 10000 ∧ s.2.2.2.2.2.2.2.2.2.1 j = nI m) (hd : 8 ≤ d) : q_Spec g mX10_formatDialogue d 38 10588 [.ref (100)] h (q_chg (q_oI ((x_am_formatDialogue s.2.2.2.2.2.2.2.2.1 s.2.2.2.2.2.2.2.2.2.1 lc fl).1)) (fun h1 => z_C h1 hs se sf s s1 nx kp rw ic fi ((x_am_formatDialogue s.2.2.2.2.2.2.2.2.1 s.2.2.2.2.2.2.2.2.2.1 lc fl).2.1) ((x_am_formatDialogue s.2.2.2.2.2.2.2.2.1 s.2.2.2.2.2.2.2.2.2.1 lc fl).2.2) ∧ q_zone h h1 100 115)) := by
  obtain ⟨sam, sst, ssv, slt, shs, slb, sga, sex, spr, ssb⟩ := w
  have hz := ssb.s0
  refine q_Spec_mono (e_am_formatDialogue (d := d) sam sst ssb hnmv hd) (fun o1 h1 hQ => ?_)
  obtain ⟨e1, n_am, n_st, n_sb, q9⟩ := hQ
  have n_st2 : z_S2t h1 101 s := n_st
  exact ⟨e1, ⟨_, _, _, _, _, _, _, _, _, _, _, _, _, _, _, n_am, n_st2, ssv.keepZ q9 (by omega), slt.keepZ q9 (by omega), shs.keepZ q9 (by omega), slb.keepZ q9 (by omega), sga.keepZ q9 (by omega), sex.keepZ q9 (by omega), spr.keepZ q9 (by omega), n_sb⟩, q9.wide (by omega) (by omega)⟩
set_option maxRecDepth 100000 in
set_option maxHeartbeats 4000000 in
theorem c_lineChar {g : q_G} {h : q_H} {d : Nat} {hs : Bool} {se : Int32} {sf : Int32} {s : ZS} {s1 : ZS} {s2 : ZS} {nx : Nat} {kp : Nat} {rw : Nat → ZS} {ca : Int32} {cj : Int32} {co : Nat → Int32} {won : Nat → Int32} {lost : Nat → Int32} {pf : Nat → Int32} {cv : Nat → Int32} {sc : Nat} {pc : Nat} {pp : Nat} {po : Int32} {vb : Nat → Int32} {oa : Nat → Int32} {ob : Nat → Int32} {ic : Nat} {fi : Nat → Int32} {lc : Nat} {fl : Nat → Int32} (w : z_Cx h hs se sf s s1 s2 nx kp rw ca cj co won lost pf cv sc pc pp po vb oa ob ic fi lc fl) (xp : Int32)  (hd : 7 ≤ d) : q_Spec g mX10_lineChar d 1 6 [.ref (100), .int (xp)] h (q_chg (q_oI ((x_am_lineChar lc fl xp))) (fun h1 => z_C h1 hs se sf s s1 nx kp rw ic fi lc fl ∧ q_zone h h1 100 115)) := by
  obtain ⟨sam, sst, ssv, slt, shs, slb, sga, sex, spr, ssb⟩ := w
  have hz := ssb.s0
  refine q_Spec_mono (e_am_lineChar (d := d) sam ssb xp hd) (fun o1 h1 hQ => ?_)
  revert hQ
  rcases x_am_lineChar lc fl xp with v | E
  · rintro ⟨e1, rfl⟩
    exact ⟨e1, ⟨⟨s2, ca, cj, co, won, lost, pf, cv, sc, pc, pp, po, vb, oa, ob, sam, sst, ssv, slt, shs, slb, sga, sex, spr, ssb⟩, q_zone.rfl'⟩⟩
  · rintro ⟨e1, rfl⟩
    exact ⟨e1, ⟨s2, ca, cj, co, won, lost, pf, cv, sc, pc, pp, po, vb, oa, ob, sam.keepI (Nat.le_succ _) (fun _ _ _ => rfl), sst.keepI (Nat.le_succ _) (fun _ _ _ => rfl), ssv.keepI (Nat.le_succ _) (fun _ _ _ => rfl), slt.keepI (Nat.le_succ _) (fun _ _ _ => rfl), shs.keepI (Nat.le_succ _) (fun _ _ _ => rfl), slb.keepI (Nat.le_succ _) (fun _ _ _ => rfl), sga.keepI (Nat.le_succ _) (fun _ _ _ => rfl), sex.keepI (Nat.le_succ _) (fun _ _ _ => rfl), spr.keepI (Nat.le_succ _) (fun _ _ _ => rfl), ssb.keep (q_same.skip (a := 215) (k := 10)) (by omega)⟩, q_zone.skip hz⟩
set_option maxRecDepth 100000 in
set_option maxHeartbeats 4000000 in
theorem c_append {g : q_G} {h : q_H} {d : Nat} {hs : Bool} {se : Int32} {sf : Int32} {s : ZS} {s1 : ZS} {s2 : ZS} {nx : Nat} {kp : Nat} {rw : Nat → ZS} {ca : Int32} {cj : Int32} {co : Nat → Int32} {won : Nat → Int32} {lost : Nat → Int32} {pf : Nat → Int32} {cv : Nat → Int32} {sc : Nat} {pc : Nat} {pp : Nat} {po : Int32} {vb : Nat → Int32} {oa : Nat → Int32} {ob : Nat → Int32} {ic : Nat} {fi : Nat → Int32} {lc : Nat} {fl : Nat → Int32} (w : z_Cx h hs se sf s s1 s2 nx kp rw ca cj co won lost pf cv sc pc pp po vb oa ob ic fi lc fl) (xc : Int32)  (hd : 7 ≤ d) : q_Spec g mX10_append d 1 286 [.ref (100), .int (xc)] h (q_chg (q_oI ((x_am_append ic fi xc).1)) (fun h1 => z_C h1 hs se sf s s1 nx kp rw ((x_am_append ic fi xc).2.1) ((x_am_append ic fi xc).2.2) lc fl ∧ q_zone h h1 100 115)) := by
  obtain ⟨sam, sst, ssv, slt, shs, slb, sga, sex, spr, ssb⟩ := w
  have hz := ssb.s0
  refine q_Spec_mono (e_am_append (d := d) sam ssb xc hd) (fun o1 h1 hQ => ?_)
  obtain ⟨e1, n_am, n_sb, q9⟩ := hQ
  exact ⟨e1, ⟨_, _, _, _, _, _, _, _, _, _, _, _, _, _, _, n_am, sst.keepZ q9 (by omega), ssv.keepZ q9 (by omega), slt.keepZ q9 (by omega), shs.keepZ q9 (by omega), slb.keepZ q9 (by omega), sga.keepZ q9 (by omega), sex.keepZ q9 (by omega), spr.keepZ q9 (by omega), n_sb⟩, q9.wide (by omega) (by omega)⟩
set_option maxRecDepth 100000 in
set_option maxHeartbeats 4000000 in
theorem c_run {g : q_G} {h : q_H} {d : Nat} {hs : Bool} {se : Int32} {sf : Int32} {s : ZS} {s1 : ZS} {s2 : ZS} {nx : Nat} {kp : Nat} {rw : Nat → ZS} {ca : Int32} {cj : Int32} {co : Nat → Int32} {won : Nat → Int32} {lost : Nat → Int32} {pf : Nat → Int32} {cv : Nat → Int32} {sc : Nat} {pc : Nat} {pp : Nat} {po : Int32} {vb : Nat → Int32} {oa : Nat → Int32} {ob : Nat → Int32} {ic : Nat} {fi : Nat → Int32} {lc : Nat} {fl : Nat → Int32} (w : z_Cx h hs se sf s s1 s2 nx kp rw ca cj co won lost pf cv sc pc pp po vb oa ob ic fi lc fl)   (hd : 13 ≤ d) : q_Spec g mX10_run d 66 676 [.ref (100)] h (q_chg (q_oI ((x_am_run se sf s nx kp rw po vb oa ob ic fi).1)) (fun h1 => z_C h1 hs ((x_am_run se sf s nx kp rw po vb oa ob ic fi).2.1) ((x_am_run se sf s nx kp rw po vb oa ob ic fi).2.2.1) ((x_am_run se sf s nx kp rw po vb oa ob ic fi).2.2.2.1) s1 ((x_am_run se sf s nx kp rw po vb oa ob ic fi).2.2.2.2.1) ((x_am_run se sf s nx kp rw po vb oa ob ic fi).2.2.2.2.2.1) ((x_am_run se sf s nx kp rw po vb oa ob ic fi).2.2.2.2.2.2.1) ((x_am_run se sf s nx kp rw po vb oa ob ic fi).2.2.2.2.2.2.2.2.2.2.2.2.2) fi lc fl ∧ q_zone h h1 100 115)) := by
  obtain ⟨sam, sst, ssv, slt, shs, slb, sga, sex, spr, ssb⟩ := w
  have hz := ssb.s0
  refine q_Spec_mono (e_am_run (d := d) sam sst ssv slt shs slb sga sex spr ssb hd) (fun o1 h1 hQ => ?_)
  obtain ⟨e1, n_am, n_st, n_sv, n_lt, n_hs, n_lb, n_ga, n_ex, n_pr, n_sb, q9⟩ := hQ
  exact ⟨e1, ⟨_, _, _, _, _, _, _, _, _, _, _, _, _, _, _, n_am, n_st, n_sv, n_lt, n_hs, n_lb, n_ga, n_ex, n_pr, n_sb⟩, q9.wide (by omega) (by omega)⟩
set_option maxRecDepth 100000 in
set_option maxHeartbeats 4000000 in
theorem c_errorPosition {g : q_G} {h : q_H} {d : Nat} {hs : Bool} {se : Int32} {sf : Int32} {s : ZS} {s1 : ZS} {s2 : ZS} {nx : Nat} {kp : Nat} {rw : Nat → ZS} {ca : Int32} {cj : Int32} {co : Nat → Int32} {won : Nat → Int32} {lost : Nat → Int32} {pf : Nat → Int32} {cv : Nat → Int32} {sc : Nat} {pc : Nat} {pp : Nat} {po : Int32} {vb : Nat → Int32} {oa : Nat → Int32} {ob : Nat → Int32} {ic : Nat} {fi : Nat → Int32} {lc : Nat} {fl : Nat → Int32} (w : z_Cx h hs se sf s s1 s2 nx kp rw ca cj co won lost pf cv sc pc pp po vb oa ob ic fi lc fl)   (hd : 7 ≤ d) : q_Spec g mX10_errorPosition d 1 6 [.ref (100)] h (q_chg (q_oI ((x_am_errorPosition se))) (fun h1 => z_C h1 hs se sf s s1 nx kp rw ic fi lc fl ∧ q_zone h h1 100 115)) := by
  obtain ⟨sam, sst, ssv, slt, shs, slb, sga, sex, spr, ssb⟩ := w
  have hz := ssb.s0
  refine q_Spec_mono (e_am_errorPosition (d := d) sam hd) (fun o1 h1 hQ => ?_)
  revert hQ
  rcases x_am_errorPosition se with v | E
  · rintro ⟨e1, rfl⟩
    exact ⟨e1, ⟨⟨s2, ca, cj, co, won, lost, pf, cv, sc, pc, pp, po, vb, oa, ob, sam, sst, ssv, slt, shs, slb, sga, sex, spr, ssb⟩, q_zone.rfl'⟩⟩
  · rintro ⟨e1, rfl⟩
    exact ⟨e1, ⟨s2, ca, cj, co, won, lost, pf, cv, sc, pc, pp, po, vb, oa, ob, sam.keepI (Nat.le_succ _) (fun _ _ _ => rfl), sst.keepI (Nat.le_succ _) (fun _ _ _ => rfl), ssv.keepI (Nat.le_succ _) (fun _ _ _ => rfl), slt.keepI (Nat.le_succ _) (fun _ _ _ => rfl), shs.keepI (Nat.le_succ _) (fun _ _ _ => rfl), slb.keepI (Nat.le_succ _) (fun _ _ _ => rfl), sga.keepI (Nat.le_succ _) (fun _ _ _ => rfl), sex.keepI (Nat.le_succ _) (fun _ _ _ => rfl), spr.keepI (Nat.le_succ _) (fun _ _ _ => rfl), ssb.keep (q_same.skip (a := 215) (k := 10)) (by omega)⟩, q_zone.skip hz⟩
set_option maxRecDepth 100000 in
set_option maxHeartbeats 4000000 in
theorem c_failedCommand {g : q_G} {h : q_H} {d : Nat} {hs : Bool} {se : Int32} {sf : Int32} {s : ZS} {s1 : ZS} {s2 : ZS} {nx : Nat} {kp : Nat} {rw : Nat → ZS} {ca : Int32} {cj : Int32} {co : Nat → Int32} {won : Nat → Int32} {lost : Nat → Int32} {pf : Nat → Int32} {cv : Nat → Int32} {sc : Nat} {pc : Nat} {pp : Nat} {po : Int32} {vb : Nat → Int32} {oa : Nat → Int32} {ob : Nat → Int32} {ic : Nat} {fi : Nat → Int32} {lc : Nat} {fl : Nat → Int32} (w : z_Cx h hs se sf s s1 s2 nx kp rw ca cj co won lost pf cv sc pc pp po vb oa ob ic fi lc fl)   (hd : 7 ≤ d) : q_Spec g mX10_failedCommand d 1 6 [.ref (100)] h (q_chg (q_oI ((x_am_failedCommand sf))) (fun h1 => z_C h1 hs se sf s s1 nx kp rw ic fi lc fl ∧ q_zone h h1 100 115)) := by
  obtain ⟨sam, sst, ssv, slt, shs, slb, sga, sex, spr, ssb⟩ := w
  have hz := ssb.s0
  refine q_Spec_mono (e_am_failedCommand (d := d) sam hd) (fun o1 h1 hQ => ?_)
  revert hQ
  rcases x_am_failedCommand sf with v | E
  · rintro ⟨e1, rfl⟩
    exact ⟨e1, ⟨⟨s2, ca, cj, co, won, lost, pf, cv, sc, pc, pp, po, vb, oa, ob, sam, sst, ssv, slt, shs, slb, sga, sex, spr, ssb⟩, q_zone.rfl'⟩⟩
  · rintro ⟨e1, rfl⟩
    exact ⟨e1, ⟨s2, ca, cj, co, won, lost, pf, cv, sc, pc, pp, po, vb, oa, ob, sam.keepI (Nat.le_succ _) (fun _ _ _ => rfl), sst.keepI (Nat.le_succ _) (fun _ _ _ => rfl), ssv.keepI (Nat.le_succ _) (fun _ _ _ => rfl), slt.keepI (Nat.le_succ _) (fun _ _ _ => rfl), shs.keepI (Nat.le_succ _) (fun _ _ _ => rfl), slb.keepI (Nat.le_succ _) (fun _ _ _ => rfl), sga.keepI (Nat.le_succ _) (fun _ _ _ => rfl), sex.keepI (Nat.le_succ _) (fun _ _ _ => rfl), spr.keepI (Nat.le_succ _) (fun _ _ _ => rfl), ssb.keep (q_same.skip (a := 215) (k := 10)) (by omega)⟩, q_zone.skip hz⟩
set_option maxRecDepth 100000 in
set_option maxHeartbeats 4000000 in
theorem c_undoableCount {g : q_G} {h : q_H} {d : Nat} {hs : Bool} {se : Int32} {sf : Int32} {s : ZS} {s1 : ZS} {s2 : ZS} {nx : Nat} {kp : Nat} {rw : Nat → ZS} {ca : Int32} {cj : Int32} {co : Nat → Int32} {won : Nat → Int32} {lost : Nat → Int32} {pf : Nat → Int32} {cv : Nat → Int32} {sc : Nat} {pc : Nat} {pp : Nat} {po : Int32} {vb : Nat → Int32} {oa : Nat → Int32} {ob : Nat → Int32} {ic : Nat} {fi : Nat → Int32} {lc : Nat} {fl : Nat → Int32} (w : z_Cx h hs se sf s s1 s2 nx kp rw ca cj co won lost pf cv sc pc pp po vb oa ob ic fi lc fl)   (hd : 0 ≤ d) : q_Spec g mX10_undoableCount d 0 0 [.ref (100)] h (q_chg (.inl (some (.int ((x_am_undoableCount kp))))) (fun h1 => z_C h1 hs se sf s s1 nx kp rw ic fi lc fl ∧ q_zone h h1 100 115)) := by
  obtain ⟨sam, sst, ssv, slt, shs, slb, sga, sex, spr, ssb⟩ := w
  have hz := ssb.s0
  refine q_Spec_mono (e_am_undoableCount (d := d) sam shs hd) (fun o1 h1 hQ => ?_)
  obtain ⟨e1, rfl⟩ := hQ
  exact ⟨e1, ⟨⟨s2, ca, cj, co, won, lost, pf, cv, sc, pc, pp, po, vb, oa, ob, sam, sst, ssv, slt, shs, slb, sga, sex, spr, ssb⟩, q_zone.rfl'⟩⟩
set_option maxRecDepth 100000 in
set_option maxHeartbeats 4000000 in
theorem c_undo {g : q_G} {h : q_H} {d : Nat} {hs : Bool} {se : Int32} {sf : Int32} {s : ZS} {s1 : ZS} {s2 : ZS} {nx : Nat} {kp : Nat} {rw : Nat → ZS} {ca : Int32} {cj : Int32} {co : Nat → Int32} {won : Nat → Int32} {lost : Nat → Int32} {pf : Nat → Int32} {cv : Nat → Int32} {sc : Nat} {pc : Nat} {pp : Nat} {po : Int32} {vb : Nat → Int32} {oa : Nat → Int32} {ob : Nat → Int32} {ic : Nat} {fi : Nat → Int32} {lc : Nat} {fl : Nat → Int32} (w : z_Cx h hs se sf s s1 s2 nx kp rw ca cj co won lost pf cv sc pc pp po vb oa ob ic fi lc fl)   (hd : 7 ≤ d) : q_Spec g mX10_undo d 1 6 [.ref (100)] h (q_chg (q_oI ((x_am_undo s nx kp rw).1)) (fun h1 => z_C h1 hs se sf ((x_am_undo s nx kp rw).2.1) s1 ((x_am_undo s nx kp rw).2.2.1) ((x_am_undo s nx kp rw).2.2.2) rw ic fi lc fl ∧ q_zone h h1 100 115)) := by
  obtain ⟨sam, sst, ssv, slt, shs, slb, sga, sex, spr, ssb⟩ := w
  have hz := ssb.s0
  refine q_Spec_mono (e_am_undo (d := d) sam sst ssv slt shs hd) (fun o1 h1 hQ => ?_)
  obtain ⟨e1, n_am, n_st, n_sv, n_lt, n_hs, q9⟩ := hQ
  exact ⟨e1, ⟨_, _, _, _, _, _, _, _, _, _, _, _, _, _, _, n_am, n_st, n_sv, n_lt, n_hs, slb.keep q9 (by omega), sga.keep q9 (by omega), sex.keep q9 (by omega), spr.keep q9 (by omega), ssb.keep q9 (by omega)⟩, (q9.zone hz).wide (by omega) (by omega)⟩
set_option maxRecDepth 100000 in
set_option maxHeartbeats 4000000 in
theorem c_save {g : q_G} {h : q_H} {d : Nat} {hs : Bool} {se : Int32} {sf : Int32} {s : ZS} {s1 : ZS} {s2 : ZS} {nx : Nat} {kp : Nat} {rw : Nat → ZS} {ca : Int32} {cj : Int32} {co : Nat → Int32} {won : Nat → Int32} {lost : Nat → Int32} {pf : Nat → Int32} {cv : Nat → Int32} {sc : Nat} {pc : Nat} {pp : Nat} {po : Int32} {vb : Nat → Int32} {oa : Nat → Int32} {ob : Nat → Int32} {ic : Nat} {fi : Nat → Int32} {lc : Nat} {fl : Nat → Int32} (w : z_Cx h hs se sf s s1 s2 nx kp rw ca cj co won lost pf cv sc pc pp po vb oa ob ic fi lc fl)   (hd : 3 ≤ d) : q_Spec g mX10_save d 0 0 [.ref (100)] h (q_chg (.inl (some (.int ((x_am_save s.1 s.2.1 s.2.2.1 s.2.2.2.1 s.2.2.2.2.1 s.2.2.2.2.2.1 s.2.2.2.2.2.2.1 s.2.2.2.2.2.2.2.1 s.2.2.2.2.2.2.2.2.1 s.2.2.2.2.2.2.2.2.2.1 s.2.2.2.2.2.2.2.2.2.2.1 s.2.2.2.2.2.2.2.2.2.2.2.1 s.2.2.2.2.2.2.2.2.2.2.2.2 s1).1)))) (fun h1 => z_C h1 ((x_am_save s.1 s.2.1 s.2.2.1 s.2.2.2.1 s.2.2.2.2.1 s.2.2.2.2.2.1 s.2.2.2.2.2.2.1 s.2.2.2.2.2.2.2.1 s.2.2.2.2.2.2.2.2.1 s.2.2.2.2.2.2.2.2.2.1 s.2.2.2.2.2.2.2.2.2.2.1 s.2.2.2.2.2.2.2.2.2.2.2.1 s.2.2.2.2.2.2.2.2.2.2.2.2 s1).2.1) se sf s ((x_am_save s.1 s.2.1 s.2.2.1 s.2.2.2.1 s.2.2.2.2.1 s.2.2.2.2.2.1 s.2.2.2.2.2.2.1 s.2.2.2.2.2.2.2.1 s.2.2.2.2.2.2.2.2.1 s.2.2.2.2.2.2.2.2.2.1 s.2.2.2.2.2.2.2.2.2.2.1 s.2.2.2.2.2.2.2.2.2.2.2.1 s.2.2.2.2.2.2.2.2.2.2.2.2 s1).2.2) nx kp rw ic fi lc fl ∧ q_zone h h1 100 115)) := by
  obtain ⟨sam, sst, ssv, slt, shs, slb, sga, sex, spr, ssb⟩ := w
  have hz := ssb.s0
  refine q_Spec_mono (e_am_save (d := d) sam sst ssv hd) (fun o1 h1 hQ => ?_)
  obtain ⟨e1, n_am, n_st, n_sv, q9⟩ := hQ
  have n_st2 : z_S2t h1 101 s := n_st
  exact ⟨e1, ⟨_, _, _, _, _, _, _, _, _, _, _, _, _, _, _, n_am, n_st2, n_sv, slt.keep q9 (by omega), shs.keep q9 (by omega), slb.keep q9 (by omega), sga.keep q9 (by omega), sex.keep q9 (by omega), spr.keep q9 (by omega), ssb.keep q9 (by omega)⟩, (q9.zone hz).wide (by omega) (by omega)⟩
set_option maxRecDepth 100000 in
set_option maxHeartbeats 4000000 in
theorem c_restore {g : q_G} {h : q_H} {d : Nat} {hs : Bool} {se : Int32} {sf : Int32} {s : ZS} {s1 : ZS} {s2 : ZS} {nx : Nat} {kp : Nat} {rw : Nat → ZS} {ca : Int32} {cj : Int32} {co : Nat → Int32} {won : Nat → Int32} {lost : Nat → Int32} {pf : Nat → Int32} {cv : Nat → Int32} {sc : Nat} {pc : Nat} {pp : Nat} {po : Int32} {vb : Nat → Int32} {oa : Nat → Int32} {ob : Nat → Int32} {ic : Nat} {fi : Nat → Int32} {lc : Nat} {fl : Nat → Int32} (w : z_Cx h hs se sf s s1 s2 nx kp rw ca cj co won lost pf cv sc pc pp po vb oa ob ic fi lc fl)   (hd : 7 ≤ d) : q_Spec g mX10_restore d 1 6 [.ref (100)] h (q_chg (q_oI ((x_am_restore hs s s1 kp).1)) (fun h1 => z_C h1 hs se sf ((x_am_restore hs s s1 kp).2.1) s1 nx ((x_am_restore hs s s1 kp).2.2) rw ic fi lc fl ∧ q_zone h h1 100 115)) := by
  obtain ⟨sam, sst, ssv, slt, shs, slb, sga, sex, spr, ssb⟩ := w
  have hz := ssb.s0
  refine q_Spec_mono (e_am_restore (d := d) sam sst ssv slt shs hd) (fun o1 h1 hQ => ?_)
  obtain ⟨e1, n_am, n_st, n_sv, n_lt, n_hs, q9⟩ := hQ
  exact ⟨e1, ⟨_, _, _, _, _, _, _, _, _, _, _, _, _, _, _, n_am, n_st, n_sv, n_lt, n_hs, slb.keep q9 (by omega), sga.keep q9 (by omega), sex.keep q9 (by omega), spr.keep q9 (by omega), ssb.keep q9 (by omega)⟩, (q9.zone hz).wide (by omega) (by omega)⟩
set_option maxRecDepth 100000 in
set_option maxHeartbeats 4000000 in
theorem r_addArgument {g : q_G} {h : q_H} {d : Nat} {th : Int32} {al : Nat → Int32} {cg : Nat} {sv : Bool} {rs : Int32} {ac : Int32} {rj : Int32} {ro : Nat → Int32} {ad : Nat → Int32} {bf : Nat → Int32} {ln : Nat → Int32} {lz : Nat} {ip : Nat → Int32} {ty : Nat} {he : Nat} {er : Int32} {ea : Int32} {fa : Int32} {cm : Nat → Int32} {cn : Nat} {n mn : Nat} (w : z_Mr h 215 th al cg sv rs ac rj ro ad bf ln lz ip ty he er ea fa cm cn) (e0 : al 0 = nI n) (hn : n ≤ 8) (e3 : al 3 = nI mn) (hm : mn ≤ 12) (xa : Int32)  (hd : 2 ≤ d) : q_Spec g mX11_addArgument d 0 0 [.ref (215), .int (xa)] h (q_chg (.inl (some (.int ((x_mo_addArgument al cg rs n xa).1)))) (fun h1 => z_M h1 ((x_mo_addArgument al cg rs n xa).2.1) ((x_mo_addArgument al cg rs n xa).2.2.1) ((x_mo_addArgument al cg rs n xa).2.2.2.1) sv ad ln lz ip ty ea fa ∧ q_same h h1 215 8)) := by
  refine q_Spec_mono (e_mo_addArgument w n mn xa e0 hn e3 hm hd) (fun o1 h1 hQ => ?_)
  obtain ⟨e1, v9, q9⟩ := hQ
  exact ⟨e1, ⟨_, _, _, _, _, _, _, _, _, v9⟩, q9⟩
set_option maxRecDepth 100000 in
set_option maxHeartbeats 4000000 in
theorem r_removeArgument {g : q_G} {h : q_H} {d : Nat} {th : Int32} {al : Nat → Int32} {cg : Nat} {sv : Bool} {rs : Int32} {ac : Int32} {rj : Int32} {ro : Nat → Int32} {ad : Nat → Int32} {bf : Nat → Int32} {ln : Nat → Int32} {lz : Nat} {ip : Nat → Int32} {ty : Nat} {he : Nat} {er : Int32} {ea : Int32} {fa : Int32} {cm : Nat → Int32} {cn : Nat} {n mn : Nat} (w : z_Mr h 215 th al cg sv rs ac rj ro ad bf ln lz ip ty he er ea fa cm cn) (e0 : al 0 = nI n) (hn : n ≤ 8) (e3 : al 3 = nI mn) (hm : mn ≤ 12) (xa : Int32)  (hd : 3 ≤ d) : q_Spec g mX11_removeArgument d 0 0 [.ref (215), .int (xa)] h (q_chg (.inl (some (.int ((x_mo_removeArgument al cg rs n mn xa).1)))) (fun h1 => z_M h1 ((x_mo_removeArgument al cg rs n mn xa).2.1) ((x_mo_removeArgument al cg rs n mn xa).2.2.1) ((x_mo_removeArgument al cg rs n mn xa).2.2.2.1) sv ad ln lz ip ty ea fa ∧ q_same h h1 215 8)) := by
  refine q_Spec_mono (e_mo_removeArgument w n mn xa e0 hn e3 hm hd) (fun o1 h1 hQ => ?_)
  obtain ⟨e1, v9, q9⟩ := hQ
  exact ⟨e1, ⟨_, _, _, _, _, _, _, _, _, v9⟩, q9⟩
set_option maxRecDepth 100000 in
set_option maxHeartbeats 4000000 in
theorem r_addAttack {g : q_G} {h : q_H} {d : Nat} {th : Int32} {al : Nat → Int32} {cg : Nat} {sv : Bool} {rs : Int32} {ac : Int32} {rj : Int32} {ro : Nat → Int32} {ad : Nat → Int32} {bf : Nat → Int32} {ln : Nat → Int32} {lz : Nat} {ip : Nat → Int32} {ty : Nat} {he : Nat} {er : Int32} {ea : Int32} {fa : Int32} {cm : Nat → Int32} {cn : Nat} {n mn : Nat} (w : z_Mr h 215 th al cg sv rs ac rj ro ad bf ln lz ip ty he er ea fa cm cn) (e0 : al 0 = nI n) (hn : n ≤ 8) (e3 : al 3 = nI mn) (hm : mn ≤ 12) (xa : Int32) (xc : Int32)  (hd : 4 ≤ d) : q_Spec g mX11_addAttack d 0 0 [.ref (215), .int (xa), .int (xc)] h (q_chg (.inl (some (.int ((x_mo_addAttack al cg rs n xa xc).1)))) (fun h1 => z_M h1 ((x_mo_addAttack al cg rs n xa xc).2.1) ((x_mo_addAttack al cg rs n xa xc).2.2.1) ((x_mo_addAttack al cg rs n xa xc).2.2.2.1) sv ad ln lz ip ty ea fa ∧ q_same h h1 215 8)) := by
  refine q_Spec_mono (e_mo_addAttack w n mn xa xc e0 hn e3 hm hd) (fun o1 h1 hQ => ?_)
  obtain ⟨e1, v9, q9⟩ := hQ
  exact ⟨e1, ⟨_, _, _, _, _, _, _, _, _, v9⟩, q9⟩
set_option maxRecDepth 100000 in
set_option maxHeartbeats 4000000 in
theorem r_removeAttack {g : q_G} {h : q_H} {d : Nat} {th : Int32} {al : Nat → Int32} {cg : Nat} {sv : Bool} {rs : Int32} {ac : Int32} {rj : Int32} {ro : Nat → Int32} {ad : Nat → Int32} {bf : Nat → Int32} {ln : Nat → Int32} {lz : Nat} {ip : Nat → Int32} {ty : Nat} {he : Nat} {er : Int32} {ea : Int32} {fa : Int32} {cm : Nat → Int32} {cn : Nat} {n mn : Nat} (w : z_Mr h 215 th al cg sv rs ac rj ro ad bf ln lz ip ty he er ea fa cm cn) (e0 : al 0 = nI n) (hn : n ≤ 8) (e3 : al 3 = nI mn) (hm : mn ≤ 12) (xa : Int32) (xc : Int32)  (hd : 4 ≤ d) : q_Spec g mX11_removeAttack d 0 0 [.ref (215), .int (xa), .int (xc)] h (q_chg (.inl (some (.int ((x_mo_removeAttack al cg rs n xa xc).1)))) (fun h1 => z_M h1 ((x_mo_removeAttack al cg rs n xa xc).2.1) ((x_mo_removeAttack al cg rs n xa xc).2.2.1) ((x_mo_removeAttack al cg rs n xa xc).2.2.2.1) sv ad ln lz ip ty ea fa ∧ q_same h h1 215 8)) := by
  refine q_Spec_mono (e_mo_removeAttack w n mn xa xc e0 hn e3 hm hd) (fun o1 h1 hQ => ?_)
  obtain ⟨e1, v9, q9⟩ := hQ
  exact ⟨e1, ⟨_, _, _, _, _, _, _, _, _, v9⟩, q9⟩
set_option maxRecDepth 100000 in
set_option maxHeartbeats 4000000 in
theorem r_setWeight {g : q_G} {h : q_H} {d : Nat} {th : Int32} {al : Nat → Int32} {cg : Nat} {sv : Bool} {rs : Int32} {ac : Int32} {rj : Int32} {ro : Nat → Int32} {ad : Nat → Int32} {bf : Nat → Int32} {ln : Nat → Int32} {lz : Nat} {ip : Nat → Int32} {ty : Nat} {he : Nat} {er : Int32} {ea : Int32} {fa : Int32} {cm : Nat → Int32} {cn : Nat} {n mn : Nat} (w : z_Mr h 215 th al cg sv rs ac rj ro ad bf ln lz ip ty he er ea fa cm cn) (e0 : al 0 = nI n) (hn : n ≤ 8) (e3 : al 3 = nI mn) (hm : mn ≤ 12) (xa : Int32) (xc : Int32)  (hd : 4 ≤ d) : q_Spec g mX11_setWeight d 0 0 [.ref (215), .int (xa), .int (xc)] h (q_chg (.inl (some (.int ((x_mo_setWeight al cg rs n xa xc).1)))) (fun h1 => z_M h1 ((x_mo_setWeight al cg rs n xa xc).2.1) ((x_mo_setWeight al cg rs n xa xc).2.2.1) ((x_mo_setWeight al cg rs n xa xc).2.2.2.1) sv ad ln lz ip ty ea fa ∧ q_same h h1 215 8)) := by
  refine q_Spec_mono (e_mo_setWeight w n mn xa xc e0 hn e3 hm hd) (fun o1 h1 hQ => ?_)
  obtain ⟨e1, v9, q9⟩ := hQ
  exact ⟨e1, ⟨_, _, _, _, _, _, _, _, _, v9⟩, q9⟩
set_option maxRecDepth 100000 in
set_option maxHeartbeats 4000000 in
theorem r_renew {g : q_G} {h : q_H} {d : Nat} {th : Int32} {al : Nat → Int32} {cg : Nat} {sv : Bool} {rs : Int32} {ac : Int32} {rj : Int32} {ro : Nat → Int32} {ad : Nat → Int32} {bf : Nat → Int32} {ln : Nat → Int32} {lz : Nat} {ip : Nat → Int32} {ty : Nat} {he : Nat} {er : Int32} {ea : Int32} {fa : Int32} {cm : Nat → Int32} {cn : Nat} {n mn : Nat} (w : z_Mr h 215 th al cg sv rs ac rj ro ad bf ln lz ip ty he er ea fa cm cn) (e0 : al 0 = nI n) (hn : n ≤ 8) (e3 : al 3 = nI mn) (hm : mn ≤ 12) (xa : Int32)  (hd : 4 ≤ d) : q_Spec g mX11_renew d 0 0 [.ref (215), .int (xa)] h (q_chg (.inl (some (.int ((x_mo_renew al cg rs n xa).1)))) (fun h1 => z_M h1 ((x_mo_renew al cg rs n xa).2.1) ((x_mo_renew al cg rs n xa).2.2.1) ((x_mo_renew al cg rs n xa).2.2.2.1) sv ad ln lz ip ty ea fa ∧ q_same h h1 215 8)) := by
  refine q_Spec_mono (e_mo_renew w n mn xa e0 hn e3 hm hd) (fun o1 h1 hQ => ?_)
  obtain ⟨e1, v9, q9⟩ := hQ
  exact ⟨e1, ⟨_, _, _, _, _, _, _, _, _, v9⟩, q9⟩
set_option maxRecDepth 100000 in
set_option maxHeartbeats 4000000 in
theorem r_startDialogue {g : q_G} {h : q_H} {d : Nat} {th : Int32} {al : Nat → Int32} {cg : Nat} {sv : Bool} {rs : Int32} {ac : Int32} {rj : Int32} {ro : Nat → Int32} {ad : Nat → Int32} {bf : Nat → Int32} {ln : Nat → Int32} {lz : Nat} {ip : Nat → Int32} {ty : Nat} {he : Nat} {er : Int32} {ea : Int32} {fa : Int32} {cm : Nat → Int32} {cn : Nat} {n mn : Nat} (w : z_Mr h 215 th al cg sv rs ac rj ro ad bf ln lz ip ty he er ea fa cm cn) (e0 : al 0 = nI n) (hn : n ≤ 8) (e3 : al 3 = nI mn) (hm : mn ≤ 12) (xa : Int32)  (hd : 5 ≤ d) : q_Spec g mX11_startDialogue d 0 0 [.ref (215), .int (xa)] h (q_chg (.inl (some (.int ((x_mo_startDialogue al cg rs n mn xa).1)))) (fun h1 => z_M h1 ((x_mo_startDialogue al cg rs n mn xa).2.1) ((x_mo_startDialogue al cg rs n mn xa).2.2.1) ((x_mo_startDialogue al cg rs n mn xa).2.2.2.1) sv ad ln lz ip ty ea fa ∧ q_same h h1 215 8)) := by
  refine q_Spec_mono (e_mo_startDialogue w n mn xa e0 hn e3 hm hd) (fun o1 h1 hQ => ?_)
  obtain ⟨e1, v9, q9⟩ := hQ
  exact ⟨e1, ⟨_, _, _, _, _, _, _, _, _, v9⟩, q9⟩
set_option maxRecDepth 100000 in
set_option maxHeartbeats 4000000 in
theorem r_move {g : q_G} {h : q_H} {d : Nat} {th : Int32} {al : Nat → Int32} {cg : Nat} {sv : Bool} {rs : Int32} {ac : Int32} {rj : Int32} {ro : Nat → Int32} {ad : Nat → Int32} {bf : Nat → Int32} {ln : Nat → Int32} {lz : Nat} {ip : Nat → Int32} {ty : Nat} {he : Nat} {er : Int32} {ea : Int32} {fa : Int32} {cm : Nat → Int32} {cn : Nat} {n mn : Nat} (w : z_Mr h 215 th al cg sv rs ac rj ro ad bf ln lz ip ty he er ea fa cm cn) (e0 : al 0 = nI n) (hn : n ≤ 8) (e3 : al 3 = nI mn) (hm : mn ≤ 12) (xa : Int32) (hlm : mn ≠ 0 → 0 < x_pl n al (al (39 + mn - 1))) (hd : 6 ≤ d) : q_Spec g mX11_move d 0 0 [.ref (215), .int (xa)] h (q_chg (.inl (some (.int ((x_mo_move al cg rs n mn xa).1)))) (fun h1 => z_M h1 ((x_mo_move al cg rs n mn xa).2.1) ((x_mo_move al cg rs n mn xa).2.2.1) ((x_mo_move al cg rs n mn xa).2.2.2.1) sv ad ln lz ip ty ea fa ∧ q_same h h1 215 8)) := by
  refine q_Spec_mono (e_mo_move w n mn xa e0 hn e3 hm hlm hd) (fun o1 h1 hQ => ?_)
  obtain ⟨e1, v9, q9⟩ := hQ
  exact ⟨e1, ⟨_, _, _, _, _, _, _, _, _, v9⟩, q9⟩
set_option maxRecDepth 100000 in
set_option maxHeartbeats 4000000 in
theorem r_takeBack {g : q_G} {h : q_H} {d : Nat} {th : Int32} {al : Nat → Int32} {cg : Nat} {sv : Bool} {rs : Int32} {ac : Int32} {rj : Int32} {ro : Nat → Int32} {ad : Nat → Int32} {bf : Nat → Int32} {ln : Nat → Int32} {lz : Nat} {ip : Nat → Int32} {ty : Nat} {he : Nat} {er : Int32} {ea : Int32} {fa : Int32} {cm : Nat → Int32} {cn : Nat} {n mn : Nat} (w : z_Mr h 215 th al cg sv rs ac rj ro ad bf ln lz ip ty he er ea fa cm cn) (e0 : al 0 = nI n) (hn : n ≤ 8) (e3 : al 3 = nI mn) (hm : mn ≤ 12)   (hd : 2 ≤ d) : q_Spec g mX11_takeBack d 0 0 [.ref (215)] h (q_chg (.inl (some (.int ((x_mo_takeBack al cg rs mn).1)))) (fun h1 => z_M h1 ((x_mo_takeBack al cg rs mn).2.1) ((x_mo_takeBack al cg rs mn).2.2.1) ((x_mo_takeBack al cg rs mn).2.2.2.1) sv ad ln lz ip ty ea fa ∧ q_same h h1 215 8)) := by
  refine q_Spec_mono (e_mo_takeBack w n mn e0 hn e3 hm hd) (fun o1 h1 hQ => ?_)
  obtain ⟨e1, v9, q9⟩ := hQ
  exact ⟨e1, ⟨_, _, _, _, _, _, _, _, _, v9⟩, q9⟩
set_option maxRecDepth 100000 in
set_option maxHeartbeats 4000000 in
theorem r_endDialogue {g : q_G} {h : q_H} {d : Nat} {th : Int32} {al : Nat → Int32} {cg : Nat} {sv : Bool} {rs : Int32} {ac : Int32} {rj : Int32} {ro : Nat → Int32} {ad : Nat → Int32} {bf : Nat → Int32} {ln : Nat → Int32} {lz : Nat} {ip : Nat → Int32} {ty : Nat} {he : Nat} {er : Int32} {ea : Int32} {fa : Int32} {cm : Nat → Int32} {cn : Nat} {n mn : Nat} (w : z_Mr h 215 th al cg sv rs ac rj ro ad bf ln lz ip ty he er ea fa cm cn) (e0 : al 0 = nI n) (hn : n ≤ 8) (e3 : al 3 = nI mn) (hm : mn ≤ 12)   (hd : 2 ≤ d) : q_Spec g mX11_endDialogue d 0 0 [.ref (215)] h (q_chg (.inl (some (.int ((x_mo_endDialogue al cg rs mn).1)))) (fun h1 => z_M h1 ((x_mo_endDialogue al cg rs mn).2.1) ((x_mo_endDialogue al cg rs mn).2.2.1) ((x_mo_endDialogue al cg rs mn).2.2.2.1) sv ad ln lz ip ty ea fa ∧ q_same h h1 215 8)) := by
  refine q_Spec_mono (e_mo_endDialogue w n mn e0 hn e3 hm hd) (fun o1 h1 hQ => ?_)
  obtain ⟨e1, v9, q9⟩ := hQ
  exact ⟨e1, ⟨_, _, _, _, _, _, _, _, _, v9⟩, q9⟩
set_option maxRecDepth 100000 in
set_option maxHeartbeats 4000000 in
theorem r_pass {g : q_G} {h : q_H} {d : Nat} {th : Int32} {al : Nat → Int32} {cg : Nat} {sv : Bool} {rs : Int32} {ac : Int32} {rj : Int32} {ro : Nat → Int32} {ad : Nat → Int32} {bf : Nat → Int32} {ln : Nat → Int32} {lz : Nat} {ip : Nat → Int32} {ty : Nat} {he : Nat} {er : Int32} {ea : Int32} {fa : Int32} {cm : Nat → Int32} {cn : Nat} {n mn : Nat} (w : z_Mr h 215 th al cg sv rs ac rj ro ad bf ln lz ip ty he er ea fa cm cn) (e0 : al 0 = nI n) (hn : n ≤ 8) (e3 : al 3 = nI mn) (hm : mn ≤ 12) (xa : Int32)  (hd : 5 ≤ d) : q_Spec g mX11_pass d 0 0 [.ref (215), .int (xa)] h (q_chg (.inl (some (.int ((x_mo_pass al cg rs bf n xa).1)))) (fun h1 => z_M h1 ((x_mo_pass al cg rs bf n xa).2.1) ((x_mo_pass al cg rs bf n xa).2.2.1) ((x_mo_pass al cg rs bf n xa).2.2.2.1) sv ad ln lz ip ty ea fa ∧ q_same h h1 215 8)) := by
  refine q_Spec_mono (e_mo_pass w n mn xa e0 hn e3 hm hd) (fun o1 h1 hQ => ?_)
  obtain ⟨e1, v9, q9⟩ := hQ
  exact ⟨e1, ⟨_, _, _, _, _, _, _, _, _, v9⟩, q9⟩
set_option maxRecDepth 100000 in
set_option maxHeartbeats 4000000 in
theorem r_day {g : q_G} {h : q_H} {d : Nat} {th : Int32} {al : Nat → Int32} {cg : Nat} {sv : Bool} {rs : Int32} {ac : Int32} {rj : Int32} {ro : Nat → Int32} {ad : Nat → Int32} {bf : Nat → Int32} {ln : Nat → Int32} {lz : Nat} {ip : Nat → Int32} {ty : Nat} {he : Nat} {er : Int32} {ea : Int32} {fa : Int32} {cm : Nat → Int32} {cn : Nat} {n mn : Nat} (w : z_Mr h 215 th al cg sv rs ac rj ro ad bf ln lz ip ty he er ea fa cm cn) (e0 : al 0 = nI n) (hn : n ≤ 8) (e3 : al 3 = nI mn) (hm : mn ≤ 12)   (hd : 1 ≤ d) : q_Spec g mX11_day d 0 0 [.ref (215)] h (q_chg (.inl (some (.int ((x_mo_day al).1)))) (fun h1 => z_M h1 ((x_mo_day al).2) al cg sv ad ln lz ip ty ea fa ∧ q_same h h1 215 8)) := by
  refine q_Spec_mono (e_mo_day (w.mo e0 hn e3 hm) hd) (fun o1 h1 hQ => ?_)
  obtain ⟨e1, v9, q9⟩ := hQ
  exact ⟨e1, ⟨_, _, _, _, _, _, _, _, _, v9.raw⟩, q9⟩
set_option maxRecDepth 100000 in
set_option maxHeartbeats 4000000 in
theorem r_argumentCount {g : q_G} {h : q_H} {d : Nat} {th : Int32} {al : Nat → Int32} {cg : Nat} {sv : Bool} {rs : Int32} {ac : Int32} {rj : Int32} {ro : Nat → Int32} {ad : Nat → Int32} {bf : Nat → Int32} {ln : Nat → Int32} {lz : Nat} {ip : Nat → Int32} {ty : Nat} {he : Nat} {er : Int32} {ea : Int32} {fa : Int32} {cm : Nat → Int32} {cn : Nat} {n mn : Nat} (w : z_Mr h 215 th al cg sv rs ac rj ro ad bf ln lz ip ty he er ea fa cm cn) (e0 : al 0 = nI n) (hn : n ≤ 8) (e3 : al 3 = nI mn) (hm : mn ≤ 12)   (hd : 1 ≤ d) : q_Spec g mX11_argumentCount d 0 0 [.ref (215)] h (q_chg (.inl (some (.int ((x_mo_argumentCount al).1)))) (fun h1 => z_M h1 ((x_mo_argumentCount al).2) al cg sv ad ln lz ip ty ea fa ∧ q_same h h1 215 8)) := by
  refine q_Spec_mono (e_mo_argumentCount (w.mo e0 hn e3 hm) hd) (fun o1 h1 hQ => ?_)
  obtain ⟨e1, v9, q9⟩ := hQ
  exact ⟨e1, ⟨_, _, _, _, _, _, _, _, _, v9.raw⟩, q9⟩
set_option maxRecDepth 100000 in
set_option maxHeartbeats 4000000 in
theorem r_idAt {g : q_G} {h : q_H} {d : Nat} {th : Int32} {al : Nat → Int32} {cg : Nat} {sv : Bool} {rs : Int32} {ac : Int32} {rj : Int32} {ro : Nat → Int32} {ad : Nat → Int32} {bf : Nat → Int32} {ln : Nat → Int32} {lz : Nat} {ip : Nat → Int32} {ty : Nat} {he : Nat} {er : Int32} {ea : Int32} {fa : Int32} {cm : Nat → Int32} {cn : Nat} {n mn : Nat} (w : z_Mr h 215 th al cg sv rs ac rj ro ad bf ln lz ip ty he er ea fa cm cn) (e0 : al 0 = nI n) (hn : n ≤ 8) (e3 : al 3 = nI mn) (hm : mn ≤ 12) (xp : Int32)  (hd : 1 ≤ d) : q_Spec g mX11_idAt d 0 0 [.ref (215), .int (xp)] h (q_chg (.inl (some (.int ((x_mo_idAt al n xp).1)))) (fun h1 => z_M h1 ((x_mo_idAt al n xp).2) al cg sv ad ln lz ip ty ea fa ∧ q_same h h1 215 8)) := by
  refine q_Spec_mono (e_mo_idAt (w.mo e0 hn e3 hm) xp hd) (fun o1 h1 hQ => ?_)
  obtain ⟨e1, v9, q9⟩ := hQ
  exact ⟨e1, ⟨_, _, _, _, _, _, _, _, _, v9.raw⟩, q9⟩
set_option maxRecDepth 100000 in
set_option maxHeartbeats 4000000 in
theorem r_weightOf {g : q_G} {h : q_H} {d : Nat} {th : Int32} {al : Nat → Int32} {cg : Nat} {sv : Bool} {rs : Int32} {ac : Int32} {rj : Int32} {ro : Nat → Int32} {ad : Nat → Int32} {bf : Nat → Int32} {ln : Nat → Int32} {lz : Nat} {ip : Nat → Int32} {ty : Nat} {he : Nat} {er : Int32} {ea : Int32} {fa : Int32} {cm : Nat → Int32} {cn : Nat} {n mn : Nat} (w : z_Mr h 215 th al cg sv rs ac rj ro ad bf ln lz ip ty he er ea fa cm cn) (e0 : al 0 = nI n) (hn : n ≤ 8) (e3 : al 3 = nI mn) (hm : mn ≤ 12) (xid : Int32)  (hd : 4 ≤ d) : q_Spec g mX11_weightOf d 0 0 [.ref (215), .int (xid)] h (q_chg (.inl (some (.int ((x_mo_weightOf al n xid).1)))) (fun h1 => z_M h1 ((x_mo_weightOf al n xid).2) al cg sv ad ln lz ip ty ea fa ∧ q_same h h1 215 8)) := by
  refine q_Spec_mono (e_mo_weightOf (w.mo e0 hn e3 hm) xid hd) (fun o1 h1 hQ => ?_)
  obtain ⟨e1, v9, q9⟩ := hQ
  exact ⟨e1, ⟨_, _, _, _, _, _, _, _, _, v9.raw⟩, q9⟩
set_option maxRecDepth 100000 in
set_option maxHeartbeats 4000000 in
theorem r_ageOf {g : q_G} {h : q_H} {d : Nat} {th : Int32} {al : Nat → Int32} {cg : Nat} {sv : Bool} {rs : Int32} {ac : Int32} {rj : Int32} {ro : Nat → Int32} {ad : Nat → Int32} {bf : Nat → Int32} {ln : Nat → Int32} {lz : Nat} {ip : Nat → Int32} {ty : Nat} {he : Nat} {er : Int32} {ea : Int32} {fa : Int32} {cm : Nat → Int32} {cn : Nat} {n mn : Nat} (w : z_Mr h 215 th al cg sv rs ac rj ro ad bf ln lz ip ty he er ea fa cm cn) (e0 : al 0 = nI n) (hn : n ≤ 8) (e3 : al 3 = nI mn) (hm : mn ≤ 12) (xid : Int32)  (hd : 4 ≤ d) : q_Spec g mX11_ageOf d 0 0 [.ref (215), .int (xid)] h (q_chg (.inl (some (.int ((x_mo_ageOf al n xid).1)))) (fun h1 => z_M h1 ((x_mo_ageOf al n xid).2) al cg sv ad ln lz ip ty ea fa ∧ q_same h h1 215 8)) := by
  refine q_Spec_mono (e_mo_ageOf (w.mo e0 hn e3 hm) xid hd) (fun o1 h1 hQ => ?_)
  obtain ⟨e1, v9, q9⟩ := hQ
  exact ⟨e1, ⟨_, _, _, _, _, _, _, _, _, v9.raw⟩, q9⟩
set_option maxRecDepth 100000 in
set_option maxHeartbeats 4000000 in
theorem r_strengthOf {g : q_G} {h : q_H} {d : Nat} {th : Int32} {al : Nat → Int32} {cg : Nat} {sv : Bool} {rs : Int32} {ac : Int32} {rj : Int32} {ro : Nat → Int32} {ad : Nat → Int32} {bf : Nat → Int32} {ln : Nat → Int32} {lz : Nat} {ip : Nat → Int32} {ty : Nat} {he : Nat} {er : Int32} {ea : Int32} {fa : Int32} {cm : Nat → Int32} {cn : Nat} {n mn : Nat} (w : z_Mr h 215 th al cg sv rs ac rj ro ad bf ln lz ip ty he er ea fa cm cn) (e0 : al 0 = nI n) (hn : n ≤ 8) (e3 : al 3 = nI mn) (hm : mn ≤ 12) (xid : Int32)  (hd : 3 ≤ d) : q_Spec g mX11_strengthOf d 0 0 [.ref (215), .int (xid)] h (q_chg (.inl (some (.int ((x_mo_strengthOf al n xid).1)))) (fun h1 => z_M h1 ((x_mo_strengthOf al n xid).2) al cg sv ad ln lz ip ty ea fa ∧ q_same h h1 215 8)) := by
  refine q_Spec_mono (e_mo_strengthOf (w.mo e0 hn e3 hm) xid hd) (fun o1 h1 hQ => ?_)
  obtain ⟨e1, v9, q9⟩ := hQ
  exact ⟨e1, ⟨_, _, _, _, _, _, _, _, _, v9.raw⟩, q9⟩
set_option maxRecDepth 100000 in
set_option maxHeartbeats 4000000 in
theorem r_attackCount {g : q_G} {h : q_H} {d : Nat} {th : Int32} {al : Nat → Int32} {cg : Nat} {sv : Bool} {rs : Int32} {ac : Int32} {rj : Int32} {ro : Nat → Int32} {ad : Nat → Int32} {bf : Nat → Int32} {ln : Nat → Int32} {lz : Nat} {ip : Nat → Int32} {ty : Nat} {he : Nat} {er : Int32} {ea : Int32} {fa : Int32} {cm : Nat → Int32} {cn : Nat} {n mn : Nat} (w : z_Mr h 215 th al cg sv rs ac rj ro ad bf ln lz ip ty he er ea fa cm cn) (e0 : al 0 = nI n) (hn : n ≤ 8) (e3 : al 3 = nI mn) (hm : mn ≤ 12)   (hd : 2 ≤ d) : q_Spec g mX11_attackCount d 0 0 [.ref (215)] h (q_chg (.inl (some (.int ((x_mo_attackCount al n).1)))) (fun h1 => z_M h1 ((x_mo_attackCount al n).2) al cg sv ad ln lz ip ty ea fa ∧ q_same h h1 215 8)) := by
  refine q_Spec_mono (e_mo_attackCount (w.mo e0 hn e3 hm) hd) (fun o1 h1 hQ => ?_)
  obtain ⟨e1, v9, q9⟩ := hQ
  exact ⟨e1, ⟨_, _, _, _, _, _, _, _, _, v9.raw⟩, q9⟩
set_option maxRecDepth 100000 in
set_option maxHeartbeats 4000000 in
theorem r_hasAttack {g : q_G} {h : q_H} {d : Nat} {th : Int32} {al : Nat → Int32} {cg : Nat} {sv : Bool} {rs : Int32} {ac : Int32} {rj : Int32} {ro : Nat → Int32} {ad : Nat → Int32} {bf : Nat → Int32} {ln : Nat → Int32} {lz : Nat} {ip : Nat → Int32} {ty : Nat} {he : Nat} {er : Int32} {ea : Int32} {fa : Int32} {cm : Nat → Int32} {cn : Nat} {n mn : Nat} (w : z_Mr h 215 th al cg sv rs ac rj ro ad bf ln lz ip ty he er ea fa cm cn) (e0 : al 0 = nI n) (hn : n ≤ 8) (e3 : al 3 = nI mn) (hm : mn ≤ 12) (xf : Int32) (xt : Int32)  (hd : 4 ≤ d) : q_Spec g mX11_hasAttack d 0 0 [.ref (215), .int (xf), .int (xt)] h (q_chg (.inl (some (.int (z_b ((x_mo_hasAttack al n xf xt).1))))) (fun h1 => z_M h1 ((x_mo_hasAttack al n xf xt).2) al cg sv ad ln lz ip ty ea fa ∧ q_same h h1 215 8)) := by
  refine q_Spec_mono (e_mo_hasAttack (w.mo e0 hn e3 hm) xf xt hd) (fun o1 h1 hQ => ?_)
  obtain ⟨e1, v9, q9⟩ := hQ
  exact ⟨e1, ⟨_, _, _, _, _, _, _, _, _, v9.raw⟩, q9⟩
set_option maxRecDepth 100000 in
set_option maxHeartbeats 4000000 in
theorem r_isSuccessful {g : q_G} {h : q_H} {d : Nat} {th : Int32} {al : Nat → Int32} {cg : Nat} {sv : Bool} {rs : Int32} {ac : Int32} {rj : Int32} {ro : Nat → Int32} {ad : Nat → Int32} {bf : Nat → Int32} {ln : Nat → Int32} {lz : Nat} {ip : Nat → Int32} {ty : Nat} {he : Nat} {er : Int32} {ea : Int32} {fa : Int32} {cm : Nat → Int32} {cn : Nat} {n mn : Nat} (w : z_Mr h 215 th al cg sv rs ac rj ro ad bf ln lz ip ty he er ea fa cm cn) (e0 : al 0 = nI n) (hn : n ≤ 8) (e3 : al 3 = nI mn) (hm : mn ≤ 12) (xf : Int32) (xt : Int32)  (hd : 3 ≤ d) : q_Spec g mX11_isSuccessful d 0 0 [.ref (215), .int (xf), .int (xt)] h (q_chg (.inl (some (.int (z_b ((x_mo_isSuccessful al n xf xt).1))))) (fun h1 => z_M h1 ((x_mo_isSuccessful al n xf xt).2) al cg sv ad ln lz ip ty ea fa ∧ q_same h h1 215 8)) := by
  refine q_Spec_mono (e_mo_isSuccessful (w.mo e0 hn e3 hm) xf xt hd) (fun o1 h1 hQ => ?_)
  obtain ⟨e1, v9, q9⟩ := hQ
  exact ⟨e1, ⟨_, _, _, _, _, _, _, _, _, v9.raw⟩, q9⟩
set_option maxRecDepth 100000 in
set_option maxHeartbeats 4000000 in
theorem r_successfulCount {g : q_G} {h : q_H} {d : Nat} {th : Int32} {al : Nat → Int32} {cg : Nat} {sv : Bool} {rs : Int32} {ac : Int32} {rj : Int32} {ro : Nat → Int32} {ad : Nat → Int32} {bf : Nat → Int32} {ln : Nat → Int32} {lz : Nat} {ip : Nat → Int32} {ty : Nat} {he : Nat} {er : Int32} {ea : Int32} {fa : Int32} {cm : Nat → Int32} {cn : Nat} {n mn : Nat} (w : z_Mr h 215 th al cg sv rs ac rj ro ad bf ln lz ip ty he er ea fa cm cn) (e0 : al 0 = nI n) (hn : n ≤ 8) (e3 : al 3 = nI mn) (hm : mn ≤ 12)   (hd : 4 ≤ d) : q_Spec g mX11_successfulCount d 0 0 [.ref (215)] h (q_chg (.inl (some (.int ((x_mo_successfulCount al n).1)))) (fun h1 => z_M h1 ((x_mo_successfulCount al n).2) al cg sv ad ln lz ip ty ea fa ∧ q_same h h1 215 8)) := by
  refine q_Spec_mono (e_mo_successfulCount (w.mo e0 hn e3 hm) hd) (fun o1 h1 hQ => ?_)
  obtain ⟨e1, v9, q9⟩ := hQ
  exact ⟨e1, ⟨_, _, _, _, _, _, _, _, _, v9.raw⟩, q9⟩
set_option maxRecDepth 100000 in
set_option maxHeartbeats 4000000 in
theorem r_attackerCount {g : q_G} {h : q_H} {d : Nat} {th : Int32} {al : Nat → Int32} {cg : Nat} {sv : Bool} {rs : Int32} {ac : Int32} {rj : Int32} {ro : Nat → Int32} {ad : Nat → Int32} {bf : Nat → Int32} {ln : Nat → Int32} {lz : Nat} {ip : Nat → Int32} {ty : Nat} {he : Nat} {er : Int32} {ea : Int32} {fa : Int32} {cm : Nat → Int32} {cn : Nat} {n mn : Nat} (w : z_Mr h 215 th al cg sv rs ac rj ro ad bf ln lz ip ty he er ea fa cm cn) (e0 : al 0 = nI n) (hn : n ≤ 8) (e3 : al 3 = nI mn) (hm : mn ≤ 12) (xid : Int32)  (hd : 4 ≤ d) : q_Spec g mX11_attackerCount d 0 0 [.ref (215), .int (xid)] h (q_chg (.inl (some (.int ((x_mo_attackerCount al n xid).1)))) (fun h1 => z_M h1 ((x_mo_attackerCount al n xid).2) al cg sv ad ln lz ip ty ea fa ∧ q_same h h1 215 8)) := by
  refine q_Spec_mono (e_mo_attackerCount (w.mo e0 hn e3 hm) xid hd) (fun o1 h1 hQ => ?_)
  obtain ⟨e1, v9, q9⟩ := hQ
  exact ⟨e1, ⟨_, _, _, _, _, _, _, _, _, v9.raw⟩, q9⟩
set_option maxRecDepth 100000 in
set_option maxHeartbeats 4000000 in
theorem r_attackerAt {g : q_G} {h : q_H} {d : Nat} {th : Int32} {al : Nat → Int32} {cg : Nat} {sv : Bool} {rs : Int32} {ac : Int32} {rj : Int32} {ro : Nat → Int32} {ad : Nat → Int32} {bf : Nat → Int32} {ln : Nat → Int32} {lz : Nat} {ip : Nat → Int32} {ty : Nat} {he : Nat} {er : Int32} {ea : Int32} {fa : Int32} {cm : Nat → Int32} {cn : Nat} {n mn : Nat} (w : z_Mr h 215 th al cg sv rs ac rj ro ad bf ln lz ip ty he er ea fa cm cn) (e0 : al 0 = nI n) (hn : n ≤ 8) (e3 : al 3 = nI mn) (hm : mn ≤ 12) (xid : Int32) (xp : Int32)  (hd : 4 ≤ d) : q_Spec g mX11_attackerAt d 0 0 [.ref (215), .int (xid), .int (xp)] h (q_chg (.inl (some (.int ((x_mo_attackerAt al n xid xp).1)))) (fun h1 => z_M h1 ((x_mo_attackerAt al n xid xp).2) al cg sv ad ln lz ip ty ea fa ∧ q_same h h1 215 8)) := by
  refine q_Spec_mono (e_mo_attackerAt (w.mo e0 hn e3 hm) xid xp hd) (fun o1 h1 hQ => ?_)
  obtain ⟨e1, v9, q9⟩ := hQ
  exact ⟨e1, ⟨_, _, _, _, _, _, _, _, _, v9.raw⟩, q9⟩
set_option maxRecDepth 100000 in
set_option maxHeartbeats 4000000 in
theorem r_status {g : q_G} {h : q_H} {d : Nat} {th : Int32} {al : Nat → Int32} {cg : Nat} {sv : Bool} {rs : Int32} {ac : Int32} {rj : Int32} {ro : Nat → Int32} {ad : Nat → Int32} {bf : Nat → Int32} {ln : Nat → Int32} {lz : Nat} {ip : Nat → Int32} {ty : Nat} {he : Nat} {er : Int32} {ea : Int32} {fa : Int32} {cm : Nat → Int32} {cn : Nat} {n mn : Nat} (w : z_Mr h 215 th al cg sv rs ac rj ro ad bf ln lz ip ty he er ea fa cm cn) (e0 : al 0 = nI n) (hn : n ≤ 8) (e3 : al 3 = nI mn) (hm : mn ≤ 12) (xid : Int32)  (hd : 6 ≤ d) : q_Spec g mX11_status d 0 0 [.ref (215), .int (xid)] h (q_chg (.inl (some (.int ((x_mo_status al ro n xid).1)))) (fun h1 => z_M h1 ((x_mo_status al ro n xid).2.1) al cg sv ad ln lz ip ty ea fa ∧ q_same h h1 215 8)) := by
  refine q_Spec_mono (e_mo_status (w.mo e0 hn e3 hm) xid hd) (fun o1 h1 hQ => ?_)
  obtain ⟨e1, v9, q9⟩ := hQ
  exact ⟨e1, ⟨_, _, _, _, _, _, _, _, _, v9.raw⟩, q9⟩
set_option maxRecDepth 100000 in
set_option maxHeartbeats 4000000 in
theorem r_roundOf {g : q_G} {h : q_H} {d : Nat} {th : Int32} {al : Nat → Int32} {cg : Nat} {sv : Bool} {rs : Int32} {ac : Int32} {rj : Int32} {ro : Nat → Int32} {ad : Nat → Int32} {bf : Nat → Int32} {ln : Nat → Int32} {lz : Nat} {ip : Nat → Int32} {ty : Nat} {he : Nat} {er : Int32} {ea : Int32} {fa : Int32} {cm : Nat → Int32} {cn : Nat} {n mn : Nat} (w : z_Mr h 215 th al cg sv rs ac rj ro ad bf ln lz ip ty he er ea fa cm cn) (e0 : al 0 = nI n) (hn : n ≤ 8) (e3 : al 3 = nI mn) (hm : mn ≤ 12) (xid : Int32)  (hd : 6 ≤ d) : q_Spec g mX11_roundOf d 0 0 [.ref (215), .int (xid)] h (q_chg (.inl (some (.int ((x_mo_roundOf al ro n xid).1)))) (fun h1 => z_M h1 ((x_mo_roundOf al ro n xid).2.1) al cg sv ad ln lz ip ty ea fa ∧ q_same h h1 215 8)) := by
  refine q_Spec_mono (e_mo_roundOf (w.mo e0 hn e3 hm) xid hd) (fun o1 h1 hQ => ?_)
  obtain ⟨e1, v9, q9⟩ := hQ
  exact ⟨e1, ⟨_, _, _, _, _, _, _, _, _, v9.raw⟩, q9⟩
set_option maxRecDepth 100000 in
set_option maxHeartbeats 4000000 in
theorem r_isAcceptedByGame {g : q_G} {h : q_H} {d : Nat} {th : Int32} {al : Nat → Int32} {cg : Nat} {sv : Bool} {rs : Int32} {ac : Int32} {rj : Int32} {ro : Nat → Int32} {ad : Nat → Int32} {bf : Nat → Int32} {ln : Nat → Int32} {lz : Nat} {ip : Nat → Int32} {ty : Nat} {he : Nat} {er : Int32} {ea : Int32} {fa : Int32} {cm : Nat → Int32} {cn : Nat} {n mn : Nat} (w : z_Mr h 215 th al cg sv rs ac rj ro ad bf ln lz ip ty he er ea fa cm cn) (e0 : al 0 = nI n) (hn : n ≤ 8) (e3 : al 3 = nI mn) (hm : mn ≤ 12) (xid : Int32)  (hd : 7 ≤ d) : q_Spec g mX11_isAcceptedByGame d 0 0 [.ref (215), .int (xid)] h (q_chg (.inl (some (.int (z_b ((x_mo_isAcceptedByGame al ro n xid).1))))) (fun h1 => z_M h1 ((x_mo_isAcceptedByGame al ro n xid).2.1) al cg sv ad ln lz ip ty ea fa ∧ q_same h h1 215 8)) := by
  refine q_Spec_mono (e_mo_isAcceptedByGame (w.mo e0 hn e3 hm) xid hd) (fun o1 h1 hQ => ?_)
  obtain ⟨e1, v9, q9⟩ := hQ
  exact ⟨e1, ⟨_, _, _, _, _, _, _, _, _, v9.raw⟩, q9⟩
set_option maxRecDepth 100000 in
set_option maxHeartbeats 4000000 in
theorem r_canOpponentWin {g : q_G} {h : q_H} {d : Nat} {th : Int32} {al : Nat → Int32} {cg : Nat} {sv : Bool} {rs : Int32} {ac : Int32} {rj : Int32} {ro : Nat → Int32} {ad : Nat → Int32} {bf : Nat → Int32} {ln : Nat → Int32} {lz : Nat} {ip : Nat → Int32} {ty : Nat} {he : Nat} {er : Int32} {ea : Int32} {fa : Int32} {cm : Nat → Int32} {cn : Nat} {n mn : Nat} (w : z_Mr h 215 th al cg sv rs ac rj ro ad bf ln lz ip ty he er ea fa cm cn) (e0 : al 0 = nI n) (hn : n ≤ 8) (e3 : al 3 = nI mn) (hm : mn ≤ 12) (xid : Int32)  (hd : 8 ≤ d) : q_Spec g mX11_canOpponentWin d 0 0 [.ref (215), .int (xid)] h (q_chg (.inl (some (.int (z_b ((x_mo_canOpponentWin al ro n xid).1))))) (fun h1 => z_M h1 ((x_mo_canOpponentWin al ro n xid).2.1) al cg sv ad ln lz ip ty ea fa ∧ q_same h h1 215 8)) := by
  refine q_Spec_mono (e_mo_canOpponentWin (w.mo e0 hn e3 hm) xid hd) (fun o1 h1 hQ => ?_)
  obtain ⟨e1, v9, q9⟩ := hQ
  exact ⟨e1, ⟨_, _, _, _, _, _, _, _, _, v9.raw⟩, q9⟩
set_option maxRecDepth 100000 in
set_option maxHeartbeats 4000000 in
theorem r_acceptedCount {g : q_G} {h : q_H} {d : Nat} {th : Int32} {al : Nat → Int32} {cg : Nat} {sv : Bool} {rs : Int32} {ac : Int32} {rj : Int32} {ro : Nat → Int32} {ad : Nat → Int32} {bf : Nat → Int32} {ln : Nat → Int32} {lz : Nat} {ip : Nat → Int32} {ty : Nat} {he : Nat} {er : Int32} {ea : Int32} {fa : Int32} {cm : Nat → Int32} {cn : Nat} {n mn : Nat} (w : z_Mr h 215 th al cg sv rs ac rj ro ad bf ln lz ip ty he er ea fa cm cn) (e0 : al 0 = nI n) (hn : n ≤ 8) (e3 : al 3 = nI mn) (hm : mn ≤ 12)   (hd : 6 ≤ d) : q_Spec g mX11_acceptedCount d 0 0 [.ref (215)] h (q_chg (.inl (some (.int ((x_mo_acceptedCount al ro n).1)))) (fun h1 => z_M h1 ((x_mo_acceptedCount al ro n).2.1) al cg sv ad ln lz ip ty ea fa ∧ q_same h h1 215 8)) := by
  refine q_Spec_mono (e_mo_acceptedCount (w.mo e0 hn e3 hm) hd) (fun o1 h1 hQ => ?_)
  obtain ⟨e1, v9, q9⟩ := hQ
  exact ⟨e1, ⟨_, _, _, _, _, _, _, _, _, v9.raw⟩, q9⟩
set_option maxRecDepth 100000 in
set_option maxHeartbeats 4000000 in
theorem r_undecidedCount {g : q_G} {h : q_H} {d : Nat} {th : Int32} {al : Nat → Int32} {cg : Nat} {sv : Bool} {rs : Int32} {ac : Int32} {rj : Int32} {ro : Nat → Int32} {ad : Nat → Int32} {bf : Nat → Int32} {ln : Nat → Int32} {lz : Nat} {ip : Nat → Int32} {ty : Nat} {he : Nat} {er : Int32} {ea : Int32} {fa : Int32} {cm : Nat → Int32} {cn : Nat} {n mn : Nat} (w : z_Mr h 215 th al cg sv rs ac rj ro ad bf ln lz ip ty he er ea fa cm cn) (e0 : al 0 = nI n) (hn : n ≤ 8) (e3 : al 3 = nI mn) (hm : mn ≤ 12)   (hd : 6 ≤ d) : q_Spec g mX11_undecidedCount d 0 0 [.ref (215)] h (q_chg (.inl (some (.int ((x_mo_undecidedCount al ro n).1)))) (fun h1 => z_M h1 ((x_mo_undecidedCount al ro n).2.1) al cg sv ad ln lz ip ty ea fa ∧ q_same h h1 215 8)) := by
  refine q_Spec_mono (e_mo_undecidedCount (w.mo e0 hn e3 hm) hd) (fun o1 h1 hQ => ?_)
  obtain ⟨e1, v9, q9⟩ := hQ
  exact ⟨e1, ⟨_, _, _, _, _, _, _, _, _, v9.raw⟩, q9⟩
set_option maxRecDepth 100000 in
set_option maxHeartbeats 4000000 in
theorem r_stableCount {g : q_G} {h : q_H} {d : Nat} {th : Int32} {al : Nat → Int32} {cg : Nat} {sv : Bool} {rs : Int32} {ac : Int32} {rj : Int32} {ro : Nat → Int32} {ad : Nat → Int32} {bf : Nat → Int32} {ln : Nat → Int32} {lz : Nat} {ip : Nat → Int32} {ty : Nat} {he : Nat} {er : Int32} {ea : Int32} {fa : Int32} {cm : Nat → Int32} {cn : Nat} {n mn : Nat} (w : z_Mr h 215 th al cg sv rs ac rj ro ad bf ln lz ip ty he er ea fa cm cn) (e0 : al 0 = nI n) (hn : n ≤ 8) (e3 : al 3 = nI mn) (hm : mn ≤ 12)   (hd : 6 ≤ d) : q_Spec g mX11_stableCount d 0 0 [.ref (215)] h (q_chg (.inl (some (.int ((x_mo_stableCount al n).1)))) (fun h1 => z_M h1 ((x_mo_stableCount al n).2) al cg sv ad ln lz ip ty ea fa ∧ q_same h h1 215 8)) := by
  refine q_Spec_mono (e_mo_stableCount (w.mo e0 hn e3 hm) hd) (fun o1 h1 hQ => ?_)
  obtain ⟨e1, v9, q9⟩ := hQ
  exact ⟨e1, ⟨_, _, _, _, _, _, _, _, _, v9.raw⟩, q9⟩
set_option maxRecDepth 100000 in
set_option maxHeartbeats 4000000 in
theorem r_stableCountByLabels {g : q_G} {h : q_H} {d : Nat} {th : Int32} {al : Nat → Int32} {cg : Nat} {sv : Bool} {rs : Int32} {ac : Int32} {rj : Int32} {ro : Nat → Int32} {ad : Nat → Int32} {bf : Nat → Int32} {ln : Nat → Int32} {lz : Nat} {ip : Nat → Int32} {ty : Nat} {he : Nat} {er : Int32} {ea : Int32} {fa : Int32} {cm : Nat → Int32} {cn : Nat} {n mn : Nat} (w : z_Mr h 215 th al cg sv rs ac rj ro ad bf ln lz ip ty he er ea fa cm cn) (e0 : al 0 = nI n) (hn : n ≤ 8) (e3 : al 3 = nI mn) (hm : mn ≤ 12)   (hd : 7 ≤ d) : q_Spec g mX11_stableCountByLabels d 0 0 [.ref (215)] h (q_chg (.inl (some (.int ((x_mo_stableCountByLabels al n).1)))) (fun h1 => z_M h1 ((x_mo_stableCountByLabels al n).2) al cg sv ad ln lz ip ty ea fa ∧ q_same h h1 215 8)) := by
  refine q_Spec_mono (e_mo_stableCountByLabels (w.mo e0 hn e3 hm) hd) (fun o1 h1 hQ => ?_)
  obtain ⟨e1, v9, q9⟩ := hQ
  exact ⟨e1, ⟨_, _, _, _, _, _, _, _, _, v9.raw⟩, q9⟩
set_option maxRecDepth 100000 in
set_option maxHeartbeats 4000000 in
theorem r_preferredCount {g : q_G} {h : q_H} {d : Nat} {th : Int32} {al : Nat → Int32} {cg : Nat} {sv : Bool} {rs : Int32} {ac : Int32} {rj : Int32} {ro : Nat → Int32} {ad : Nat → Int32} {bf : Nat → Int32} {ln : Nat → Int32} {lz : Nat} {ip : Nat → Int32} {ty : Nat} {he : Nat} {er : Int32} {ea : Int32} {fa : Int32} {cm : Nat → Int32} {cn : Nat} {n mn : Nat} (w : z_Mr h 215 th al cg sv rs ac rj ro ad bf ln lz ip ty he er ea fa cm cn) (e0 : al 0 = nI n) (hn : n ≤ 8) (e3 : al 3 = nI mn) (hm : mn ≤ 12)  (had : z_01 ad) (hd : 9 ≤ d) : q_Spec g mX11_preferredCount d 0 0 [.ref (215)] h (q_chg (.inl (some (.int ((x_mo_preferredCount al ad n).1)))) (fun h1 => z_M h1 ((x_mo_preferredCount al ad n).2.1) al cg sv ((x_mo_preferredCount al ad n).2.2) ln lz ip ty ea fa ∧ q_same h h1 215 8)) := by
  refine q_Spec_mono (e_mo_preferredCount (w.mo e0 hn e3 hm) had hd) (fun o1 h1 hQ => ?_)
  obtain ⟨e1, v9, q9⟩ := hQ
  exact ⟨e1, ⟨_, _, _, _, _, _, _, _, _, v9.raw⟩, q9⟩
set_option maxRecDepth 100000 in
set_option maxHeartbeats 4000000 in
theorem r_greatestAdmissible {g : q_G} {h : q_H} {d : Nat} {th : Int32} {al : Nat → Int32} {cg : Nat} {sv : Bool} {rs : Int32} {ac : Int32} {rj : Int32} {ro : Nat → Int32} {ad : Nat → Int32} {bf : Nat → Int32} {ln : Nat → Int32} {lz : Nat} {ip : Nat → Int32} {ty : Nat} {he : Nat} {er : Int32} {ea : Int32} {fa : Int32} {cm : Nat → Int32} {cn : Nat} {n mn : Nat} (w : z_Mr h 215 th al cg sv rs ac rj ro ad bf ln lz ip ty he er ea fa cm cn) (e0 : al 0 = nI n) (hn : n ≤ 8) (e3 : al 3 = nI mn) (hm : mn ≤ 12)   (hd : 7 ≤ d) : q_Spec g mX11_greatestAdmissible d 0 0 [.ref (215)] h (q_chg (.inl (some (.int ((x_mo_greatestAdmissible al n).1)))) (fun h1 => z_M h1 ((x_mo_greatestAdmissible al n).2) al cg sv ad ln lz ip ty ea fa ∧ q_same h h1 215 8)) := by
  refine q_Spec_mono (e_mo_greatestAdmissible (w.mo e0 hn e3 hm) hd) (fun o1 h1 hQ => ?_)
  obtain ⟨e1, v9, q9⟩ := hQ
  exact ⟨e1, ⟨_, _, _, _, _, _, _, _, _, v9.raw⟩, q9⟩
set_option maxRecDepth 100000 in
set_option maxHeartbeats 4000000 in
theorem r_isCredible {g : q_G} {h : q_H} {d : Nat} {th : Int32} {al : Nat → Int32} {cg : Nat} {sv : Bool} {rs : Int32} {ac : Int32} {rj : Int32} {ro : Nat → Int32} {ad : Nat → Int32} {bf : Nat → Int32} {ln : Nat → Int32} {lz : Nat} {ip : Nat → Int32} {ty : Nat} {he : Nat} {er : Int32} {ea : Int32} {fa : Int32} {cm : Nat → Int32} {cn : Nat} {n mn : Nat} (w : z_Mr h 215 th al cg sv rs ac rj ro ad bf ln lz ip ty he er ea fa cm cn) (e0 : al 0 = nI n) (hn : n ≤ 8) (e3 : al 3 = nI mn) (hm : mn ≤ 12) (xid : Int32) (had : z_01 ad) (hd : 9 ≤ d) : q_Spec g mX11_isCredible d 0 0 [.ref (215), .int (xid)] h (q_chg (.inl (some (.int (z_b ((x_mo_isCredible al ad n xid).1))))) (fun h1 => z_M h1 ((x_mo_isCredible al ad n xid).2.1) al cg sv ((x_mo_isCredible al ad n xid).2.2) ln lz ip ty ea fa ∧ q_same h h1 215 8)) := by
  refine q_Spec_mono (e_mo_isCredible (w.mo e0 hn e3 hm) xid had hd) (fun o1 h1 hQ => ?_)
  obtain ⟨e1, v9, q9⟩ := hQ
  exact ⟨e1, ⟨_, _, _, _, _, _, _, _, _, v9.raw⟩, q9⟩
set_option maxRecDepth 100000 in
set_option maxHeartbeats 4000000 in
theorem r_isCertain {g : q_G} {h : q_H} {d : Nat} {th : Int32} {al : Nat → Int32} {cg : Nat} {sv : Bool} {rs : Int32} {ac : Int32} {rj : Int32} {ro : Nat → Int32} {ad : Nat → Int32} {bf : Nat → Int32} {ln : Nat → Int32} {lz : Nat} {ip : Nat → Int32} {ty : Nat} {he : Nat} {er : Int32} {ea : Int32} {fa : Int32} {cm : Nat → Int32} {cn : Nat} {n mn : Nat} (w : z_Mr h 215 th al cg sv rs ac rj ro ad bf ln lz ip ty he er ea fa cm cn) (e0 : al 0 = nI n) (hn : n ≤ 8) (e3 : al 3 = nI mn) (hm : mn ≤ 12) (xid : Int32) (had : z_01 ad) (hd : 9 ≤ d) : q_Spec g mX11_isCertain d 0 0 [.ref (215), .int (xid)] h (q_chg (.inl (some (.int (z_b ((x_mo_isCertain al ad n xid).1))))) (fun h1 => z_M h1 ((x_mo_isCertain al ad n xid).2.1) al cg sv ((x_mo_isCertain al ad n xid).2.2) ln lz ip ty ea fa ∧ q_same h h1 215 8)) := by
  refine q_Spec_mono (e_mo_isCertain (w.mo e0 hn e3 hm) xid had hd) (fun o1 h1 hQ => ?_)
  obtain ⟨e1, v9, q9⟩ := hQ
  exact ⟨e1, ⟨_, _, _, _, _, _, _, _, _, v9.raw⟩, q9⟩
set_option maxRecDepth 100000 in
set_option maxHeartbeats 4000000 in
theorem r_canStandTogether {g : q_G} {h : q_H} {d : Nat} {th : Int32} {al : Nat → Int32} {cg : Nat} {sv : Bool} {rs : Int32} {ac : Int32} {rj : Int32} {ro : Nat → Int32} {ad : Nat → Int32} {bf : Nat → Int32} {ln : Nat → Int32} {lz : Nat} {ip : Nat → Int32} {ty : Nat} {he : Nat} {er : Int32} {ea : Int32} {fa : Int32} {cm : Nat → Int32} {cn : Nat} {n mn : Nat} (w : z_Mr h 215 th al cg sv rs ac rj ro ad bf ln lz ip ty he er ea fa cm cn) (e0 : al 0 = nI n) (hn : n ≤ 8) (e3 : al 3 = nI mn) (hm : mn ≤ 12) (xid : Int32) (xo : Int32) (had : z_01 ad) (hd : 9 ≤ d) : q_Spec g mX11_canStandTogether d 0 0 [.ref (215), .int (xid), .int (xo)] h (q_chg (.inl (some (.int (z_b ((x_mo_canStandTogether al ad n xid xo).1))))) (fun h1 => z_M h1 ((x_mo_canStandTogether al ad n xid xo).2.1) al cg sv ((x_mo_canStandTogether al ad n xid xo).2.2) ln lz ip ty ea fa ∧ q_same h h1 215 8)) := by
  refine q_Spec_mono (e_mo_canStandTogether (w.mo e0 hn e3 hm) xid xo had hd) (fun o1 h1 hQ => ?_)
  obtain ⟨e1, v9, q9⟩ := hQ
  exact ⟨e1, ⟨_, _, _, _, _, _, _, _, _, v9.raw⟩, q9⟩
set_option maxRecDepth 100000 in
set_option maxHeartbeats 4000000 in
theorem r_hasCycle {g : q_G} {h : q_H} {d : Nat} {th : Int32} {al : Nat → Int32} {cg : Nat} {sv : Bool} {rs : Int32} {ac : Int32} {rj : Int32} {ro : Nat → Int32} {ad : Nat → Int32} {bf : Nat → Int32} {ln : Nat → Int32} {lz : Nat} {ip : Nat → Int32} {ty : Nat} {he : Nat} {er : Int32} {ea : Int32} {fa : Int32} {cm : Nat → Int32} {cn : Nat} {n mn : Nat} (w : z_Mr h 215 th al cg sv rs ac rj ro ad bf ln lz ip ty he er ea fa cm cn) (e0 : al 0 = nI n) (hn : n ≤ 8) (e3 : al 3 = nI mn) (hm : mn ≤ 12)   (hd : 4 ≤ d) : q_Spec g mX11_hasCycle d 0 0 [.ref (215)] h (q_chg (.inl (some (.int (z_b ((x_mo_hasCycle al n).1))))) (fun h1 => z_M h1 ((x_mo_hasCycle al n).2) al cg sv ad ln lz ip ty ea fa ∧ q_same h h1 215 8)) := by
  refine q_Spec_mono (e_mo_hasCycle (w.mo e0 hn e3 hm) hd) (fun o1 h1 hQ => ?_)
  obtain ⟨e1, v9, q9⟩ := hQ
  exact ⟨e1, ⟨_, _, _, _, _, _, _, _, _, v9.raw⟩, q9⟩
set_option maxRecDepth 100000 in
set_option maxHeartbeats 4000000 in
theorem r_hasCycleBySearch {g : q_G} {h : q_H} {d : Nat} {th : Int32} {al : Nat → Int32} {cg : Nat} {sv : Bool} {rs : Int32} {ac : Int32} {rj : Int32} {ro : Nat → Int32} {ad : Nat → Int32} {bf : Nat → Int32} {ln : Nat → Int32} {lz : Nat} {ip : Nat → Int32} {ty : Nat} {he : Nat} {er : Int32} {ea : Int32} {fa : Int32} {cm : Nat → Int32} {cn : Nat} {n mn : Nat} (w : z_Mr h 215 th al cg sv rs ac rj ro ad bf ln lz ip ty he er ea fa cm cn) (e0 : al 0 = nI n) (hn : n ≤ 8) (e3 : al 3 = nI mn) (hm : mn ≤ 12)   (hd : 5 ≤ d) : q_Spec g mX11_hasCycleBySearch d 0 0 [.ref (215)] h (q_chg (.inl (some (.int (z_b ((x_mo_hasCycleBySearch al n).1))))) (fun h1 => z_M h1 ((x_mo_hasCycleBySearch al n).2) al cg sv ad ln lz ip ty ea fa ∧ q_same h h1 215 8)) := by
  refine q_Spec_mono (e_mo_hasCycleBySearch (w.mo e0 hn e3 hm) hd) (fun o1 h1 hQ => ?_)
  obtain ⟨e1, v9, q9⟩ := hQ
  exact ⟨e1, ⟨_, _, _, _, _, _, _, _, _, v9.raw⟩, q9⟩
set_option maxRecDepth 100000 in
set_option maxHeartbeats 4000000 in
theorem r_daysUntilChange {g : q_G} {h : q_H} {d : Nat} {th : Int32} {al : Nat → Int32} {cg : Nat} {sv : Bool} {rs : Int32} {ac : Int32} {rj : Int32} {ro : Nat → Int32} {ad : Nat → Int32} {bf : Nat → Int32} {ln : Nat → Int32} {lz : Nat} {ip : Nat → Int32} {ty : Nat} {he : Nat} {er : Int32} {ea : Int32} {fa : Int32} {cm : Nat → Int32} {cn : Nat} {n mn : Nat} (w : z_Mr h 215 th al cg sv rs ac rj ro ad bf ln lz ip ty he er ea fa cm cn) (e0 : al 0 = nI n) (hn : n ≤ 8) (e3 : al 3 = nI mn) (hm : mn ≤ 12)   (hd : 7 ≤ d) : q_Spec g mX11_daysUntilChange d 0 0 [.ref (215)] h (q_chg (.inl (some (.int ((x_mo_daysUntilChange al ro n).1)))) (fun h1 => z_M h1 ((x_mo_daysUntilChange al ro n).2.1) ((x_mo_daysUntilChange al ro n).2.2.1) cg sv ad ln lz ip ty ea fa ∧ q_same h h1 215 8)) := by
  refine q_Spec_mono (e_mo_daysUntilChange (w.mo e0 hn e3 hm) hd) (fun o1 h1 hQ => ?_)
  obtain ⟨e1, v9, q9⟩ := hQ
  exact ⟨e1, ⟨_, _, _, _, _, _, _, _, _, v9.raw⟩, q9⟩
set_option maxRecDepth 100000 in
set_option maxHeartbeats 4000000 in
theorem r_statusAfter {g : q_G} {h : q_H} {d : Nat} {th : Int32} {al : Nat → Int32} {cg : Nat} {sv : Bool} {rs : Int32} {ac : Int32} {rj : Int32} {ro : Nat → Int32} {ad : Nat → Int32} {bf : Nat → Int32} {ln : Nat → Int32} {lz : Nat} {ip : Nat → Int32} {ty : Nat} {he : Nat} {er : Int32} {ea : Int32} {fa : Int32} {cm : Nat → Int32} {cn : Nat} {n mn : Nat} (w : z_Mr h 215 th al cg sv rs ac rj ro ad bf ln lz ip ty he er ea fa cm cn) (e0 : al 0 = nI n) (hn : n ≤ 8) (e3 : al 3 = nI mn) (hm : mn ≤ 12) (xid : Int32) (xn : Int32)  (hd : 7 ≤ d) : q_Spec g mX11_statusAfter d 0 0 [.ref (215), .int (xid), .int (xn)] h (q_chg (.inl (some (.int ((x_mo_statusAfter al ac rj ro n xid xn).1)))) (fun h1 => z_M h1 ((x_mo_statusAfter al ac rj ro n xid xn).2.1) ((x_mo_statusAfter al ac rj ro n xid xn).2.2.1) cg sv ad ln lz ip ty ea fa ∧ q_same h h1 215 8)) := by
  refine q_Spec_mono (e_mo_statusAfter (w.mo e0 hn e3 hm) xid xn hd) (fun o1 h1 hQ => ?_)
  obtain ⟨e1, v9, q9⟩ := hQ
  exact ⟨e1, ⟨_, _, _, _, _, _, _, _, _, v9.raw⟩, q9⟩
set_option maxRecDepth 100000 in
set_option maxHeartbeats 4000000 in
theorem r_argumentByStrength {g : q_G} {h : q_H} {d : Nat} {th : Int32} {al : Nat → Int32} {cg : Nat} {sv : Bool} {rs : Int32} {ac : Int32} {rj : Int32} {ro : Nat → Int32} {ad : Nat → Int32} {bf : Nat → Int32} {ln : Nat → Int32} {lz : Nat} {ip : Nat → Int32} {ty : Nat} {he : Nat} {er : Int32} {ea : Int32} {fa : Int32} {cm : Nat → Int32} {cn : Nat} {n mn : Nat} (w : z_Mr h 215 th al cg sv rs ac rj ro ad bf ln lz ip ty he er ea fa cm cn) (e0 : al 0 = nI n) (hn : n ≤ 8) (e3 : al 3 = nI mn) (hm : mn ≤ 12) (xr : Int32)  (hd : 5 ≤ d) : q_Spec g mX11_argumentByStrength d 0 0 [.ref (215), .int (xr)] h (q_chg (.inl (some (.int ((x_mo_argumentByStrength th al n xr).1)))) (fun h1 => z_M h1 ((x_mo_argumentByStrength th al n xr).2) al cg sv ad ln lz ip ty ea fa ∧ q_same h h1 215 8)) := by
  refine q_Spec_mono (e_mo_argumentByStrength (w.mo e0 hn e3 hm) xr hd) (fun o1 h1 hQ => ?_)
  obtain ⟨e1, v9, q9⟩ := hQ
  exact ⟨e1, ⟨_, _, _, _, _, _, _, _, _, v9.raw⟩, q9⟩
set_option maxRecDepth 100000 in
set_option maxHeartbeats 4000000 in
theorem r_isDialogueHeld {g : q_G} {h : q_H} {d : Nat} {th : Int32} {al : Nat → Int32} {cg : Nat} {sv : Bool} {rs : Int32} {ac : Int32} {rj : Int32} {ro : Nat → Int32} {ad : Nat → Int32} {bf : Nat → Int32} {ln : Nat → Int32} {lz : Nat} {ip : Nat → Int32} {ty : Nat} {he : Nat} {er : Int32} {ea : Int32} {fa : Int32} {cm : Nat → Int32} {cn : Nat} {n mn : Nat} (w : z_Mr h 215 th al cg sv rs ac rj ro ad bf ln lz ip ty he er ea fa cm cn) (e0 : al 0 = nI n) (hn : n ≤ 8) (e3 : al 3 = nI mn) (hm : mn ≤ 12)   (hd : 1 ≤ d) : q_Spec g mX11_isDialogueHeld d 0 0 [.ref (215)] h (q_chg (.inl (some (.int (z_b ((x_mo_isDialogueHeld al).1))))) (fun h1 => z_M h1 ((x_mo_isDialogueHeld al).2) al cg sv ad ln lz ip ty ea fa ∧ q_same h h1 215 8)) := by
  refine q_Spec_mono (e_mo_isDialogueHeld (w.mo e0 hn e3 hm) hd) (fun o1 h1 hQ => ?_)
  obtain ⟨e1, v9, q9⟩ := hQ
  exact ⟨e1, ⟨_, _, _, _, _, _, _, _, _, v9.raw⟩, q9⟩
set_option maxRecDepth 100000 in
set_option maxHeartbeats 4000000 in
theorem r_moveCount {g : q_G} {h : q_H} {d : Nat} {th : Int32} {al : Nat → Int32} {cg : Nat} {sv : Bool} {rs : Int32} {ac : Int32} {rj : Int32} {ro : Nat → Int32} {ad : Nat → Int32} {bf : Nat → Int32} {ln : Nat → Int32} {lz : Nat} {ip : Nat → Int32} {ty : Nat} {he : Nat} {er : Int32} {ea : Int32} {fa : Int32} {cm : Nat → Int32} {cn : Nat} {n mn : Nat} (w : z_Mr h 215 th al cg sv rs ac rj ro ad bf ln lz ip ty he er ea fa cm cn) (e0 : al 0 = nI n) (hn : n ≤ 8) (e3 : al 3 = nI mn) (hm : mn ≤ 12)   (hd : 1 ≤ d) : q_Spec g mX11_moveCount d 0 0 [.ref (215)] h (q_chg (.inl (some (.int ((x_mo_moveCount al).1)))) (fun h1 => z_M h1 ((x_mo_moveCount al).2) al cg sv ad ln lz ip ty ea fa ∧ q_same h h1 215 8)) := by
  refine q_Spec_mono (e_mo_moveCount (w.mo e0 hn e3 hm) hd) (fun o1 h1 hQ => ?_)
  obtain ⟨e1, v9, q9⟩ := hQ
  exact ⟨e1, ⟨_, _, _, _, _, _, _, _, _, v9.raw⟩, q9⟩
set_option maxRecDepth 100000 in
set_option maxHeartbeats 4000000 in
theorem r_moveAt {g : q_G} {h : q_H} {d : Nat} {th : Int32} {al : Nat → Int32} {cg : Nat} {sv : Bool} {rs : Int32} {ac : Int32} {rj : Int32} {ro : Nat → Int32} {ad : Nat → Int32} {bf : Nat → Int32} {ln : Nat → Int32} {lz : Nat} {ip : Nat → Int32} {ty : Nat} {he : Nat} {er : Int32} {ea : Int32} {fa : Int32} {cm : Nat → Int32} {cn : Nat} {n mn : Nat} (w : z_Mr h 215 th al cg sv rs ac rj ro ad bf ln lz ip ty he er ea fa cm cn) (e0 : al 0 = nI n) (hn : n ≤ 8) (e3 : al 3 = nI mn) (hm : mn ≤ 12) (xp : Int32)  (hd : 1 ≤ d) : q_Spec g mX11_moveAt d 0 0 [.ref (215), .int (xp)] h (q_chg (.inl (some (.int ((x_mo_moveAt al mn xp).1)))) (fun h1 => z_M h1 ((x_mo_moveAt al mn xp).2) al cg sv ad ln lz ip ty ea fa ∧ q_same h h1 215 8)) := by
  refine q_Spec_mono (e_mo_moveAt (w.mo e0 hn e3 hm) xp hd) (fun o1 h1 hQ => ?_)
  obtain ⟨e1, v9, q9⟩ := hQ
  exact ⟨e1, ⟨_, _, _, _, _, _, _, _, _, v9.raw⟩, q9⟩
set_option maxRecDepth 100000 in
set_option maxHeartbeats 4000000 in
theorem r_canMove {g : q_G} {h : q_H} {d : Nat} {th : Int32} {al : Nat → Int32} {cg : Nat} {sv : Bool} {rs : Int32} {ac : Int32} {rj : Int32} {ro : Nat → Int32} {ad : Nat → Int32} {bf : Nat → Int32} {ln : Nat → Int32} {lz : Nat} {ip : Nat → Int32} {ty : Nat} {he : Nat} {er : Int32} {ea : Int32} {fa : Int32} {cm : Nat → Int32} {cn : Nat} {n mn : Nat} (w : z_Mr h 215 th al cg sv rs ac rj ro ad bf ln lz ip ty he er ea fa cm cn) (e0 : al 0 = nI n) (hn : n ≤ 8) (e3 : al 3 = nI mn) (hm : mn ≤ 12) (xid : Int32) (hlm : mn ≠ 0 → 0 < x_pl n al (al (39 + mn - 1))) (hd : 5 ≤ d) : q_Spec g mX11_canMove d 0 0 [.ref (215), .int (xid)] h (q_chg (.inl (some (.int (z_b ((x_mo_canMove al n mn xid).1))))) (fun h1 => z_M h1 ((x_mo_canMove al n mn xid).2) al cg sv ad ln lz ip ty ea fa ∧ q_same h h1 215 8)) := by
  refine q_Spec_mono (e_mo_canMove (w.mo e0 hn e3 hm) xid hlm hd) (fun o1 h1 hQ => ?_)
  obtain ⟨e1, v9, q9⟩ := hQ
  exact ⟨e1, ⟨_, _, _, _, _, _, _, _, _, v9.raw⟩, q9⟩
set_option maxRecDepth 100000 in
set_option maxHeartbeats 4000000 in
theorem r_dialogueTotal {g : q_G} {h : q_H} {d : Nat} {th : Int32} {al : Nat → Int32} {cg : Nat} {sv : Bool} {rs : Int32} {ac : Int32} {rj : Int32} {ro : Nat → Int32} {ad : Nat → Int32} {bf : Nat → Int32} {ln : Nat → Int32} {lz : Nat} {ip : Nat → Int32} {ty : Nat} {he : Nat} {er : Int32} {ea : Int32} {fa : Int32} {cm : Nat → Int32} {cn : Nat} {n mn : Nat} (w : z_Mr h 215 th al cg sv rs ac rj ro ad bf ln lz ip ty he er ea fa cm cn) (e0 : al 0 = nI n) (hn : n ≤ 8) (e3 : al 3 = nI mn) (hm : mn ≤ 12)   (hd : 1 ≤ d) : q_Spec g mX11_dialogueTotal d 0 0 [.ref (215)] h (q_chg (.inl (some (.int ((x_mo_dialogueTotal al).1)))) (fun h1 => z_M h1 ((x_mo_dialogueTotal al).2) al cg sv ad ln lz ip ty ea fa ∧ q_same h h1 215 8)) := by
  refine q_Spec_mono (e_mo_dialogueTotal (w.mo e0 hn e3 hm) hd) (fun o1 h1 hQ => ?_)
  obtain ⟨e1, v9, q9⟩ := hQ
  exact ⟨e1, ⟨_, _, _, _, _, _, _, _, _, v9.raw⟩, q9⟩
set_option maxRecDepth 100000 in
set_option maxHeartbeats 4000000 in
theorem r_proponentWins {g : q_G} {h : q_H} {d : Nat} {th : Int32} {al : Nat → Int32} {cg : Nat} {sv : Bool} {rs : Int32} {ac : Int32} {rj : Int32} {ro : Nat → Int32} {ad : Nat → Int32} {bf : Nat → Int32} {ln : Nat → Int32} {lz : Nat} {ip : Nat → Int32} {ty : Nat} {he : Nat} {er : Int32} {ea : Int32} {fa : Int32} {cm : Nat → Int32} {cn : Nat} {n mn : Nat} (w : z_Mr h 215 th al cg sv rs ac rj ro ad bf ln lz ip ty he er ea fa cm cn) (e0 : al 0 = nI n) (hn : n ≤ 8) (e3 : al 3 = nI mn) (hm : mn ≤ 12)   (hd : 1 ≤ d) : q_Spec g mX11_proponentWins d 0 0 [.ref (215)] h (q_chg (.inl (some (.int ((x_mo_proponentWins al).1)))) (fun h1 => z_M h1 ((x_mo_proponentWins al).2) al cg sv ad ln lz ip ty ea fa ∧ q_same h h1 215 8)) := by
  refine q_Spec_mono (e_mo_proponentWins (w.mo e0 hn e3 hm) hd) (fun o1 h1 hQ => ?_)
  obtain ⟨e1, v9, q9⟩ := hQ
  exact ⟨e1, ⟨_, _, _, _, _, _, _, _, _, v9.raw⟩, q9⟩
set_option maxRecDepth 100000 in
set_option maxHeartbeats 4000000 in
theorem r_brokenOffTotal {g : q_G} {h : q_H} {d : Nat} {th : Int32} {al : Nat → Int32} {cg : Nat} {sv : Bool} {rs : Int32} {ac : Int32} {rj : Int32} {ro : Nat → Int32} {ad : Nat → Int32} {bf : Nat → Int32} {ln : Nat → Int32} {lz : Nat} {ip : Nat → Int32} {ty : Nat} {he : Nat} {er : Int32} {ea : Int32} {fa : Int32} {cm : Nat → Int32} {cn : Nat} {n mn : Nat} (w : z_Mr h 215 th al cg sv rs ac rj ro ad bf ln lz ip ty he er ea fa cm cn) (e0 : al 0 = nI n) (hn : n ≤ 8) (e3 : al 3 = nI mn) (hm : mn ≤ 12)   (hd : 1 ≤ d) : q_Spec g mX11_brokenOffTotal d 0 0 [.ref (215)] h (q_chg (.inl (some (.int ((x_mo_brokenOffTotal al).1)))) (fun h1 => z_M h1 ((x_mo_brokenOffTotal al).2) al cg sv ad ln lz ip ty ea fa ∧ q_same h h1 215 8)) := by
  refine q_Spec_mono (e_mo_brokenOffTotal (w.mo e0 hn e3 hm) hd) (fun o1 h1 hQ => ?_)
  obtain ⟨e1, v9, q9⟩ := hQ
  exact ⟨e1, ⟨_, _, _, _, _, _, _, _, _, v9.raw⟩, q9⟩
set_option maxRecDepth 100000 in
set_option maxHeartbeats 4000000 in
theorem r_meanStrength {g : q_G} {h : q_H} {d : Nat} {th : Int32} {al : Nat → Int32} {cg : Nat} {sv : Bool} {rs : Int32} {ac : Int32} {rj : Int32} {ro : Nat → Int32} {ad : Nat → Int32} {bf : Nat → Int32} {ln : Nat → Int32} {lz : Nat} {ip : Nat → Int32} {ty : Nat} {he : Nat} {er : Int32} {ea : Int32} {fa : Int32} {cm : Nat → Int32} {cn : Nat} {n mn : Nat} (w : z_Mr h 215 th al cg sv rs ac rj ro ad bf ln lz ip ty he er ea fa cm cn) (e0 : al 0 = nI n) (hn : n ≤ 8) (e3 : al 3 = nI mn) (hm : mn ≤ 12)  (hnan : z_nanD n (x_mo_meanStrength_4 al n 0 0)) (hd : 2 ≤ d) : q_Spec g mX11_meanStrength d 0 0 [.ref (215)] h (q_chg (.inl (some (.double ((x_mo_meanStrength al n).1)))) (fun h1 => z_M h1 ((x_mo_meanStrength al n).2) al cg sv ad ln lz ip ty ea fa ∧ q_same h h1 215 8)) := by
  refine q_Spec_mono (e_mo_meanStrength (w.mo e0 hn e3 hm) hnan hd) (fun o1 h1 hQ => ?_)
  obtain ⟨e1, v9, q9⟩ := hQ
  exact ⟨e1, ⟨_, _, _, _, _, _, _, _, _, v9.raw⟩, q9⟩
set_option maxRecDepth 100000 in
set_option maxHeartbeats 4000000 in
theorem r_acceptedShare {g : q_G} {h : q_H} {d : Nat} {th : Int32} {al : Nat → Int32} {cg : Nat} {sv : Bool} {rs : Int32} {ac : Int32} {rj : Int32} {ro : Nat → Int32} {ad : Nat → Int32} {bf : Nat → Int32} {ln : Nat → Int32} {lz : Nat} {ip : Nat → Int32} {ty : Nat} {he : Nat} {er : Int32} {ea : Int32} {fa : Int32} {cm : Nat → Int32} {cn : Nat} {n mn : Nat} (w : z_Mr h 215 th al cg sv rs ac rj ro ad bf ln lz ip ty he er ea fa cm cn) (e0 : al 0 = nI n) (hn : n ≤ 8) (e3 : al 3 = nI mn) (hm : mn ≤ 12)  (hnan : z_nanF n (x_mo_size (x_mo_labelsAll al n ro).1)) (hd : 6 ≤ d) : q_Spec g mX11_acceptedShare d 0 0 [.ref (215)] h (q_chg (.inl (some (.float ((x_mo_acceptedShare al ro n).1)))) (fun h1 => z_M h1 ((x_mo_acceptedShare al ro n).2.1) al cg sv ad ln lz ip ty ea fa ∧ q_same h h1 215 8)) := by
  refine q_Spec_mono (e_mo_acceptedShare (w.mo e0 hn e3 hm) hnan hd) (fun o1 h1 hQ => ?_)
  obtain ⟨e1, v9, q9⟩ := hQ
  exact ⟨e1, ⟨_, _, _, _, _, _, _, _, _, v9.raw⟩, q9⟩
set_option maxRecDepth 100000 in
set_option maxHeartbeats 4000000 in
theorem r_isConsistent {g : q_G} {h : q_H} {d : Nat} {th : Int32} {al : Nat → Int32} {cg : Nat} {sv : Bool} {rs : Int32} {ac : Int32} {rj : Int32} {ro : Nat → Int32} {ad : Nat → Int32} {bf : Nat → Int32} {ln : Nat → Int32} {lz : Nat} {ip : Nat → Int32} {ty : Nat} {he : Nat} {er : Int32} {ea : Int32} {fa : Int32} {cm : Nat → Int32} {cn : Nat} {n mn : Nat} (w : z_Mr h 215 th al cg sv rs ac rj ro ad bf ln lz ip ty he er ea fa cm cn) (e0 : al 0 = nI n) (hn : n ≤ 8) (e3 : al 3 = nI mn) (hm : mn ≤ 12)   (hd : 0 ≤ d) : q_Spec g mX11_isConsistent d 0 0 [.ref (215)] h (q_chg (.inl (some (.int (z_b ((x_mo_isConsistent).1))))) (fun h1 => z_M h1 ((x_mo_isConsistent).2) al cg sv ad ln lz ip ty ea fa ∧ q_same h h1 215 8)) := by
  refine q_Spec_mono (e_mo_isConsistent (w.mo e0 hn e3 hm) hd) (fun o1 h1 hQ => ?_)
  obtain ⟨e1, v9, q9⟩ := hQ
  exact ⟨e1, ⟨_, _, _, _, _, _, _, _, _, v9.raw⟩, q9⟩
set_option maxRecDepth 100000 in
set_option maxHeartbeats 4000000 in
theorem r_formatArgument {g : q_G} {h : q_H} {d : Nat} {th : Int32} {al : Nat → Int32} {cg : Nat} {sv : Bool} {rs : Int32} {ac : Int32} {rj : Int32} {ro : Nat → Int32} {ad : Nat → Int32} {bf : Nat → Int32} {ln : Nat → Int32} {lz : Nat} {ip : Nat → Int32} {ty : Nat} {he : Nat} {er : Int32} {ea : Int32} {fa : Int32} {cm : Nat → Int32} {cn : Nat} {n mn : Nat} (w : z_Mr h 215 th al cg sv rs ac rj ro ad bf ln lz ip ty he er ea fa cm cn) (e0 : al 0 = nI n) (hn : n ≤ 8) (e3 : al 3 = nI mn) (hm : mn ≤ 12) (xid : Int32) (hnx : x_th n al xid = true → ∃ m : Nat, m < 10000 ∧ xid = nI m) (hnid : ∀ j, j < n → ∃ m : Nat, m < 10000 ∧ al (7 + 3 * j + 0) = nI m) (hnwt : ∀ j, j < n → ∃ m : Nat, m < 10000 ∧ al (7 + 3 * j + 1) = nI m) (hnst : ∀ j, j < n → ∃ m : Nat, m < 10000 ∧ x_mo_strength al j = nI m) (hd : 7 ≤ d) : q_Spec g mX11_formatArgument d 0 0 [.ref (215), .int (xid)] h (q_chg (.inl (some (.int ((x_mo_formatArgument al ac rj ro ln lz n xid).1)))) (fun h1 => z_M h1 ((x_mo_formatArgument al ac rj ro ln lz n xid).2.1) al cg sv ad ((x_mo_formatArgument al ac rj ro ln lz n xid).2.2.2.2.2.1) ((x_mo_formatArgument al ac rj ro ln lz n xid).2.2.2.2.2.2) ip ty ea fa ∧ q_same h h1 215 8)) := by
  refine q_Spec_mono (e_mo_formatArgument (w.mo e0 hn e3 hm) xid hnx hnid hnwt hnst hd) (fun o1 h1 hQ => ?_)
  obtain ⟨e1, v9, q9⟩ := hQ
  exact ⟨e1, ⟨_, _, _, _, _, _, _, _, _, v9.raw⟩, q9⟩
set_option maxRecDepth 100000 in
set_option maxHeartbeats 4000000 in
theorem r_formatDialogue {g : q_G} {h : q_H} {d : Nat} {th : Int32} {al : Nat → Int32} {cg : Nat} {sv : Bool} {rs : Int32} {ac : Int32} {rj : Int32} {ro : Nat → Int32} {ad : Nat → Int32} {bf : Nat → Int32} {ln : Nat → Int32} {lz : Nat} {ip : Nat → Int32} {ty : Nat} {he : Nat} {er : Int32} {ea : Int32} {fa : Int32} {cm : Nat → Int32} {cn : Nat} {n mn : Nat} (w : z_Mr h 215 th al cg sv rs ac rj ro ad bf ln lz ip ty he er ea fa cm cn) (e0 : al 0 = nI n) (hn : n ≤ 8) (e3 : al 3 = nI mn) (hm : mn ≤ 12)  (hnmv : ∀ j, j < mn → ∃ m : Nat, m < 10000 ∧ al (39 + j) = nI m) (hd : 7 ≤ d) : q_Spec g mX11_formatDialogue d 0 0 [.ref (215)] h (q_chg (.inl (some (.int ((x_mo_formatDialogue al ln lz mn).1)))) (fun h1 => z_M h1 ((x_mo_formatDialogue al ln lz mn).2.1) al cg sv ad ((x_mo_formatDialogue al ln lz mn).2.2.1) ((x_mo_formatDialogue al ln lz mn).2.2.2) ip ty ea fa ∧ q_same h h1 215 8)) := by
  refine q_Spec_mono (e_mo_formatDialogue (w.mo e0 hn e3 hm) hnmv hd) (fun o1 h1 hQ => ?_)
  obtain ⟨e1, v9, q9⟩ := hQ
  exact ⟨e1, ⟨_, _, _, _, _, _, _, _, _, v9.raw⟩, q9⟩
set_option maxRecDepth 100000 in
set_option maxHeartbeats 4000000 in
theorem r_lineChar {g : q_G} {h : q_H} {d : Nat} {th : Int32} {al : Nat → Int32} {cg : Nat} {sv : Bool} {rs : Int32} {ac : Int32} {rj : Int32} {ro : Nat → Int32} {ad : Nat → Int32} {bf : Nat → Int32} {ln : Nat → Int32} {lz : Nat} {ip : Nat → Int32} {ty : Nat} {he : Nat} {er : Int32} {ea : Int32} {fa : Int32} {cm : Nat → Int32} {cn : Nat} {n mn : Nat} (w : z_Mr h 215 th al cg sv rs ac rj ro ad bf ln lz ip ty he er ea fa cm cn) (e0 : al 0 = nI n) (hn : n ≤ 8) (e3 : al 3 = nI mn) (hm : mn ≤ 12) (xp : Int32) (hch : ∀ j, j < lz → narrow .char (.int (ln j)) = .int (ln j)) (hd : 1 ≤ d) : q_Spec g mX11_lineChar d 0 0 [.ref (215), .int (xp)] h (q_chg (.inl (some (.int ((x_mo_lineChar ln lz xp).1)))) (fun h1 => z_M h1 ((x_mo_lineChar ln lz xp).2) al cg sv ad ln lz ip ty ea fa ∧ q_same h h1 215 8)) := by
  refine q_Spec_mono (e_mo_lineChar (w.mo e0 hn e3 hm) xp hch hd) (fun o1 h1 hQ => ?_)
  obtain ⟨e1, v9, q9⟩ := hQ
  exact ⟨e1, ⟨_, _, _, _, _, _, _, _, _, v9.raw⟩, q9⟩
set_option maxRecDepth 100000 in
set_option maxHeartbeats 4000000 in
theorem r_append {g : q_G} {h : q_H} {d : Nat} {th : Int32} {al : Nat → Int32} {cg : Nat} {sv : Bool} {rs : Int32} {ac : Int32} {rj : Int32} {ro : Nat → Int32} {ad : Nat → Int32} {bf : Nat → Int32} {ln : Nat → Int32} {lz : Nat} {ip : Nat → Int32} {ty : Nat} {he : Nat} {er : Int32} {ea : Int32} {fa : Int32} {cm : Nat → Int32} {cn : Nat} {n mn : Nat} (w : z_Mr h 215 th al cg sv rs ac rj ro ad bf ln lz ip ty he er ea fa cm cn) (e0 : al 0 = nI n) (hn : n ≤ 8) (e3 : al 3 = nI mn) (hm : mn ≤ 12) (xc : Int32)  (hd : 1 ≤ d) : q_Spec g mX11_append d 0 0 [.ref (215), .int (xc)] h (q_chg (.inl (some (.int ((x_mo_append ip ty xc).1)))) (fun h1 => z_M h1 ((x_mo_append ip ty xc).2.1) al cg sv ad ln lz ((x_mo_append ip ty xc).2.2.1) ((x_mo_append ip ty xc).2.2.2) ea fa ∧ q_same h h1 215 8)) := by
  refine q_Spec_mono (e_mo_append (w.mo e0 hn e3 hm) xc hd) (fun o1 h1 hQ => ?_)
  obtain ⟨e1, v9, q9⟩ := hQ
  exact ⟨e1, ⟨_, _, _, _, _, _, _, _, _, v9.raw⟩, q9⟩
set_option maxRecDepth 100000 in
set_option maxHeartbeats 4000000 in
theorem r_run {g : q_G} {h : q_H} {d : Nat} {th : Int32} {al : Nat → Int32} {cg : Nat} {sv : Bool} {rs : Int32} {ac : Int32} {rj : Int32} {ro : Nat → Int32} {ad : Nat → Int32} {bf : Nat → Int32} {ln : Nat → Int32} {lz : Nat} {ip : Nat → Int32} {ty : Nat} {he : Nat} {er : Int32} {ea : Int32} {fa : Int32} {cm : Nat → Int32} {cn : Nat} {n mn : Nat} (w : z_Mr h 215 th al cg sv rs ac rj ro ad bf ln lz ip ty he er ea fa cm cn) (e0 : al 0 = nI n) (hn : n ≤ 8) (e3 : al 3 = nI mn) (hm : mn ≤ 12) (Iv : (Nat → Int32) → Nat → Nat → Prop) (hI : Iv al n mn) (hIl : ∀ al n mn, Iv al n mn → mn ≠ 0 → 0 < x_pl n al (al (39 + mn - 1))) (hIs : ∀ al rs bf cm n mn p, Iv al n mn → Iv (x_mo_does al rs bf cm n mn p).2.1 (x_mo_does al rs bf cm n mn p).2.2.2.2.1 (x_mo_does al rs bf cm n mn p).2.2.2.2.2) (hIc : Iv al n mn → Iv (x_cp al 0 10) n mn) (hd : 7 ≤ d) : q_Spec g mX11_run d 0 0 [.ref (215)] h (q_chg (.inl (some (.int ((x_mo_run al cg rs bf ip ty ea fa cm n mn).1)))) (fun h1 => z_M h1 ((x_mo_run al cg rs bf ip ty ea fa cm n mn).2.1) ((x_mo_run al cg rs bf ip ty ea fa cm n mn).2.2.1) ((x_mo_run al cg rs bf ip ty ea fa cm n mn).2.2.2.1) sv ad ln lz ip ((x_mo_run al cg rs bf ip ty ea fa cm n mn).2.2.2.2.2.2.1) ((x_mo_run al cg rs bf ip ty ea fa cm n mn).2.2.2.2.2.2.2.2.2.1) ((x_mo_run al cg rs bf ip ty ea fa cm n mn).2.2.2.2.2.2.2.2.2.2.1) ∧ q_same h h1 215 8)) := by
  refine q_Spec_mono (e_mo_run w n mn Iv e0 hn e3 hm hI hIl hIs hIc hd) (fun o1 h1 hQ => ?_)
  obtain ⟨e1, v9, q9⟩ := hQ
  exact ⟨e1, ⟨_, _, _, _, _, _, _, _, _, v9⟩, q9⟩
set_option maxRecDepth 100000 in
set_option maxHeartbeats 4000000 in
theorem r_errorPosition {g : q_G} {h : q_H} {d : Nat} {th : Int32} {al : Nat → Int32} {cg : Nat} {sv : Bool} {rs : Int32} {ac : Int32} {rj : Int32} {ro : Nat → Int32} {ad : Nat → Int32} {bf : Nat → Int32} {ln : Nat → Int32} {lz : Nat} {ip : Nat → Int32} {ty : Nat} {he : Nat} {er : Int32} {ea : Int32} {fa : Int32} {cm : Nat → Int32} {cn : Nat} {n mn : Nat} (w : z_Mr h 215 th al cg sv rs ac rj ro ad bf ln lz ip ty he er ea fa cm cn) (e0 : al 0 = nI n) (hn : n ≤ 8) (e3 : al 3 = nI mn) (hm : mn ≤ 12)   (hd : 1 ≤ d) : q_Spec g mX11_errorPosition d 0 0 [.ref (215)] h (q_chg (.inl (some (.int ((x_mo_errorPosition ea).1)))) (fun h1 => z_M h1 ((x_mo_errorPosition ea).2) al cg sv ad ln lz ip ty ea fa ∧ q_same h h1 215 8)) := by
  refine q_Spec_mono (e_mo_errorPosition (w.mo e0 hn e3 hm) hd) (fun o1 h1 hQ => ?_)
  obtain ⟨e1, v9, q9⟩ := hQ
  exact ⟨e1, ⟨_, _, _, _, _, _, _, _, _, v9.raw⟩, q9⟩
set_option maxRecDepth 100000 in
set_option maxHeartbeats 4000000 in
theorem r_failedCommand {g : q_G} {h : q_H} {d : Nat} {th : Int32} {al : Nat → Int32} {cg : Nat} {sv : Bool} {rs : Int32} {ac : Int32} {rj : Int32} {ro : Nat → Int32} {ad : Nat → Int32} {bf : Nat → Int32} {ln : Nat → Int32} {lz : Nat} {ip : Nat → Int32} {ty : Nat} {he : Nat} {er : Int32} {ea : Int32} {fa : Int32} {cm : Nat → Int32} {cn : Nat} {n mn : Nat} (w : z_Mr h 215 th al cg sv rs ac rj ro ad bf ln lz ip ty he er ea fa cm cn) (e0 : al 0 = nI n) (hn : n ≤ 8) (e3 : al 3 = nI mn) (hm : mn ≤ 12)   (hd : 1 ≤ d) : q_Spec g mX11_failedCommand d 0 0 [.ref (215)] h (q_chg (.inl (some (.int ((x_mo_failedCommand fa).1)))) (fun h1 => z_M h1 ((x_mo_failedCommand fa).2) al cg sv ad ln lz ip ty ea fa ∧ q_same h h1 215 8)) := by
  refine q_Spec_mono (e_mo_failedCommand (w.mo e0 hn e3 hm) hd) (fun o1 h1 hQ => ?_)
  obtain ⟨e1, v9, q9⟩ := hQ
  exact ⟨e1, ⟨_, _, _, _, _, _, _, _, _, v9.raw⟩, q9⟩
set_option maxRecDepth 100000 in
set_option maxHeartbeats 4000000 in
theorem r_undoableCount {g : q_G} {h : q_H} {d : Nat} {th : Int32} {al : Nat → Int32} {cg : Nat} {sv : Bool} {rs : Int32} {ac : Int32} {rj : Int32} {ro : Nat → Int32} {ad : Nat → Int32} {bf : Nat → Int32} {ln : Nat → Int32} {lz : Nat} {ip : Nat → Int32} {ty : Nat} {he : Nat} {er : Int32} {ea : Int32} {fa : Int32} {cm : Nat → Int32} {cn : Nat} {n mn : Nat} (w : z_Mr h 215 th al cg sv rs ac rj ro ad bf ln lz ip ty he er ea fa cm cn) (e0 : al 0 = nI n) (hn : n ≤ 8) (e3 : al 3 = nI mn) (hm : mn ≤ 12)   (hd : 0 ≤ d) : q_Spec g mX11_undoableCount d 0 0 [.ref (215)] h (q_chg (.inl (some (.int ((x_mo_undoableCount cg).1)))) (fun h1 => z_M h1 ((x_mo_undoableCount cg).2) al cg sv ad ln lz ip ty ea fa ∧ q_same h h1 215 8)) := by
  refine q_Spec_mono (e_mo_undoableCount (w.mo e0 hn e3 hm) hd) (fun o1 h1 hQ => ?_)
  obtain ⟨e1, v9, q9⟩ := hQ
  exact ⟨e1, ⟨_, _, _, _, _, _, _, _, _, v9.raw⟩, q9⟩
set_option maxRecDepth 100000 in
set_option maxHeartbeats 4000000 in
theorem r_undo {g : q_G} {h : q_H} {d : Nat} {th : Int32} {al : Nat → Int32} {cg : Nat} {sv : Bool} {rs : Int32} {ac : Int32} {rj : Int32} {ro : Nat → Int32} {ad : Nat → Int32} {bf : Nat → Int32} {ln : Nat → Int32} {lz : Nat} {ip : Nat → Int32} {ty : Nat} {he : Nat} {er : Int32} {ea : Int32} {fa : Int32} {cm : Nat → Int32} {cn : Nat} {n mn : Nat} (w : z_Mr h 215 th al cg sv rs ac rj ro ad bf ln lz ip ty he er ea fa cm cn) (e0 : al 0 = nI n) (hn : n ≤ 8) (e3 : al 3 = nI mn) (hm : mn ≤ 12)   (hd : 1 ≤ d) : q_Spec g mX11_undo d 0 0 [.ref (215)] h (q_chg (.inl (some (.int ((x_mo_undo al cg).1)))) (fun h1 => z_M h1 ((x_mo_undo al cg).2.1) ((x_mo_undo al cg).2.2.1) ((x_mo_undo al cg).2.2.2) sv ad ln lz ip ty ea fa ∧ q_same h h1 215 8)) := by
  refine q_Spec_mono (e_mo_undo w n mn e0 hn e3 hm hd) (fun o1 h1 hQ => ?_)
  obtain ⟨e1, v9, q9⟩ := hQ
  exact ⟨e1, ⟨_, _, _, _, _, _, _, _, _, v9⟩, q9⟩
set_option maxRecDepth 100000 in
set_option maxHeartbeats 4000000 in
theorem r_save {g : q_G} {h : q_H} {d : Nat} {th : Int32} {al : Nat → Int32} {cg : Nat} {sv : Bool} {rs : Int32} {ac : Int32} {rj : Int32} {ro : Nat → Int32} {ad : Nat → Int32} {bf : Nat → Int32} {ln : Nat → Int32} {lz : Nat} {ip : Nat → Int32} {ty : Nat} {he : Nat} {er : Int32} {ea : Int32} {fa : Int32} {cm : Nat → Int32} {cn : Nat} {n mn : Nat} (w : z_Mr h 215 th al cg sv rs ac rj ro ad bf ln lz ip ty he er ea fa cm cn) (e0 : al 0 = nI n) (hn : n ≤ 8) (e3 : al 3 = nI mn) (hm : mn ≤ 12)   (hd : 1 ≤ d) : q_Spec g mX11_save d 0 0 [.ref (215)] h (q_chg (.inl (some (.int ((x_mo_save al).1)))) (fun h1 => z_M h1 ((x_mo_save al).2.1) ((x_mo_save al).2.2.1) cg ((x_mo_save al).2.2.2) ad ln lz ip ty ea fa ∧ q_same h h1 215 8)) := by
  refine q_Spec_mono (e_mo_save w hd) (fun o1 h1 hQ => ?_)
  obtain ⟨e1, v9, q9⟩ := hQ
  exact ⟨e1, ⟨_, _, _, _, _, _, _, _, _, v9⟩, q9⟩
set_option maxRecDepth 100000 in
set_option maxHeartbeats 4000000 in
theorem r_restore {g : q_G} {h : q_H} {d : Nat} {th : Int32} {al : Nat → Int32} {cg : Nat} {sv : Bool} {rs : Int32} {ac : Int32} {rj : Int32} {ro : Nat → Int32} {ad : Nat → Int32} {bf : Nat → Int32} {ln : Nat → Int32} {lz : Nat} {ip : Nat → Int32} {ty : Nat} {he : Nat} {er : Int32} {ea : Int32} {fa : Int32} {cm : Nat → Int32} {cn : Nat} {n mn : Nat} (w : z_Mr h 215 th al cg sv rs ac rj ro ad bf ln lz ip ty he er ea fa cm cn) (e0 : al 0 = nI n) (hn : n ≤ 8) (e3 : al 3 = nI mn) (hm : mn ≤ 12)   (hd : 1 ≤ d) : q_Spec g mX11_restore d 0 0 [.ref (215)] h (q_chg (.inl (some (.int ((x_mo_restore al cg sv).1)))) (fun h1 => z_M h1 ((x_mo_restore al cg sv).2.1) ((x_mo_restore al cg sv).2.2.1) ((x_mo_restore al cg sv).2.2.2) sv ad ln lz ip ty ea fa ∧ q_same h h1 215 8)) := by
  refine q_Spec_mono (e_mo_restore w n mn e0 hn e3 hm hd) (fun o1 h1 hQ => ?_)
  obtain ⟨e1, v9, q9⟩ := hQ
  exact ⟨e1, ⟨_, _, _, _, _, _, _, _, _, v9⟩, q9⟩
def x_mo_thrownR (th : Int32) : Int32 := th
set_option maxRecDepth 100000 in
set_option maxHeartbeats 8000000 in
theorem e_mo_thrownR {g : q_G} {h : q_H} {d : Nat} {th : Int32} {al : Nat → Int32} {cg : Nat} {sv : Bool} {rs : Int32} {ac : Int32} {rj : Int32} {ro : Nat → Int32} {ad : Nat → Int32} {bf : Nat → Int32} {ln : Nat → Int32} {lz : Nat} {ip : Nat → Int32} {ty : Nat} {he : Nat} {er : Int32} {ea : Int32} {fa : Int32} {cm : Nat → Int32} {cn : Nat} (smo : z_Mr h 215 th al cg sv rs ac rj ro ad bf ln lz ip ty he er ea fa cm cn)     (hd : 0 ≤ d) : q_Spec g mX11_thrown d 0 0 [.ref (215)] h (q_ret ((some (.int (x_mo_thrownR th)))) h) := by
  have hb_mo_cg := smo.bcg
  have hb_mo_lz := smo.blz
  have hb_mo_ty := smo.bty
  have hb_mo_he := smo.bhe
  have hb_mo_cn := smo.bcn
  have ho_mo_cg := smo.bcg
  have ho_mo_lz := smo.blz
  have ho_mo_ty := smo.bty
  have ho_mo_he := smo.bhe
  have ho_mo_cn := smo.bcn
  refine q_enter (by decide +kernel) rfl rfl (Nat.le_of_ble_eq_true rfl) (fun hz => ?_)
  change q_W _ _ _ _ _ _ _ _ _ [.ref (215)] [] _
  refine q_aload_n (by first | assumption | omega | decide | (rw [q_R0e]; omega)) dX11_thrown_0 rfl ?_
  refine q_getf (k := 0) (v := .int (th)) kC_X11 kL_X11_40 rfl (by decide) dX11_thrown_1 smo.c0 rfl ?_
  have hE : x_mo_thrownR th = th := by simp only [x_mo_thrownR]
  rw [hE]
  exact q_ireturn dX11_thrown_4 rfl rfl (by omega) (by omega) ⟨rfl, rfl⟩