def z_Cx (h : q_H) (hs : Bool) (se : Int32) (sf : Int32) (s : ZS) (s1 : ZS) (s2 : ZS) (nx : Nat) (kp : Nat) (rw : Nat → ZS) (ca : Int32) (cj : Int32) (co : Nat → Int32) (won : Nat → Int32) (lost : Nat → Int32) (pf : Nat → Int32) (cv : Nat → Int32) (sc : Nat) (pc : Nat) (pp : Nat) (po : Int32) (vb : Nat → Int32) (oa : Nat → Int32) (ob : Nat → Int32) (ic : Nat) (fi : Nat → Int32) (lc : Nat) (fl : Nat → Int32) : Prop :=
  z_Am h 100 hs se sf ∧
  z_S2t h 101 s ∧
  z_S2t h 109 s1 ∧
  z_S2t h 117 s2 ∧
  z_Hs h 125 nx kp rw ∧
  z_Lb h 199 ca cj co ∧
  z_Ga h 201 won lost ∧
  z_Ex h 204 pf cv sc ∧
  z_Pr h 207 pc pp po vb oa ob ∧
  z_Sbs h 211 ic fi lc fl
def z_C (h : q_H) (hs : Bool) (se : Int32) (sf : Int32) (s : ZS) (s1 : ZS) (nx : Nat) (kp : Nat) (rw : Nat → ZS) (ic : Nat) (fi : Nat → Int32) (lc : Nat) (fl : Nat → Int32) : Prop :=
  ∃ (s2 : ZS) (ca : Int32) (cj : Int32) (co : Nat → Int32) (won : Nat → Int32) (lost : Nat → Int32) (pf : Nat → Int32) (cv : Nat → Int32) (sc : Nat) (pc : Nat) (pp : Nat) (po : Int32) (vb : Nat → Int32) (oa : Nat → Int32) (ob : Nat → Int32), z_Cx h hs se sf s s1 s2 nx kp rw ca cj co won lost pf cv sc pc pp po vb oa ob ic fi lc fl
theorem z_Mr.keepI {h h1 : q_H} {th : Int32} {al : Nat → Int32} {cg : Nat} {sv : Bool} {rs : Int32} {ac : Int32} {rj : Int32} {ro : Nat → Int32} {ad : Nat → Int32} {bf : Nat → Int32} {ln : Nat → Int32} {lz : Nat} {ip : Nat → Int32} {ty : Nat} {he : Nat} {er : Int32} {ea : Int32} {fa : Int32} {cm : Nat → Int32} {cn : Nat} (s : z_Mr h 215 th al cg sv rs ac rj ro ad bf ln lz ip ty he er ea fa cm cn) (hle : h.1 ≤ h1.1) (hq : ∀ i, 215 ≤ i → i < 223 → h1.2 i = h.2 i) : z_Mr h1 215 th al cg sv rs ac rj ro ad bf ln lz ip ty he er ea fa cm cn := by
  obtain ⟨w0, w1, a1, a2, a3, a4, a5, c0, c1, c2, c3, c4, c5, c6, c7⟩ := s
  exact ⟨w0, Nat.le_trans w1 hle, a1, a2, a3, a4, a5, (hq _ (by omega) (by omega)).trans c0, (hq _ (by omega) (by omega)).trans c1, (hq _ (by omega) (by omega)).trans c2, (hq _ (by omega) (by omega)).trans c3, (hq _ (by omega) (by omega)).trans c4, (hq _ (by omega) (by omega)).trans c5, (hq _ (by omega) (by omega)).trans c6, (hq _ (by omega) (by omega)).trans c7⟩
def z_M (h : q_H) (th : Int32) (al : Nat → Int32) (cg : Nat) (sv : Bool) (ad : Nat → Int32) (ln : Nat → Int32) (lz : Nat) (ip : Nat → Int32) (ty : Nat) (ea : Int32) (fa : Int32) : Prop :=
  ∃ (rs : Int32) (ac : Int32) (rj : Int32) (ro : Nat → Int32) (bf : Nat → Int32) (he : Nat) (er : Int32) (cm : Nat → Int32) (cn : Nat), z_Mr h 215 th al cg sv rs ac rj ro ad bf ln lz ip ty he er ea fa cm cn
theorem z_M.keepI {h h1 : q_H} {th : Int32} {al : Nat → Int32} {cg : Nat} {sv : Bool} {ad : Nat → Int32} {ln : Nat → Int32} {lz : Nat} {ip : Nat → Int32} {ty : Nat} {ea : Int32} {fa : Int32} (s : z_M h th al cg sv ad ln lz ip ty ea fa) (hle : h.1 ≤ h1.1) (hq : ∀ i, 215 ≤ i → i < 223 → h1.2 i = h.2 i) : z_M h1 th al cg sv ad ln lz ip ty ea fa := by
  obtain ⟨rs, ac, rj, ro, bf, he, er, cm, cn, s⟩ := s
  exact ⟨rs, ac, rj, ro, bf, he, er, cm, cn, s.keepI hle hq⟩
set_option maxRecDepth 100000 in
set_option maxHeartbeats 4000000 in
theorem c_addArgument {g : q_G} {h : q_H} {d : Nat} {hs : Bool} {se : Int32} {sf : Int32} {s : ZS} {s1 : ZS} {s2 : ZS} {nx : Nat} {kp : Nat} {rw : Nat → ZS} {ca : Int32} {cj : Int32} {co : Nat → Int32} {won : Nat → Int32} {lost : Nat → Int32} {pf : Nat → Int32} {cv : Nat → Int32} {sc : Nat} {pc : Nat} {pp : Nat} {po : Int32} {vb : Nat → Int32} {oa : Nat → Int32} {ob : Nat → Int32} {ic : Nat} {fi : Nat → Int32} {lc : Nat} {fl : Nat → Int32} (w : z_Cx h hs se sf s s1 s2 nx kp rw ca cj co won lost pf cv sc pc pp po vb oa ob ic fi lc fl) (xa : Int32)  (hd : 12 ≤ d) : q_Spec g mX10_addArgument d 4 24 [.ref (100), .int (xa)] h (q_chg (q_oI ((x_am_addArgument s nx kp rw xa).1)) (fun h1 => z_C h1 hs se sf ((x_am_addArgument s nx kp rw xa).2.1) s1 ((x_am_addArgument s nx kp rw xa).2.2.1) ((x_am_addArgument s nx kp rw xa).2.2.2.1) ((x_am_addArgument s nx kp rw xa).2.2.2.2) ic fi lc fl ∧ q_zone h h1 100 115)) := by
  obtain ⟨sam, sst, ssv, slt, shs, slb, sga, sex, spr, ssb⟩ := w
  have hz := ssb.s0
  refine q_Spec_mono (e_am_addArgument (d := d) sam sst ssv slt shs xa hd) (fun o1 h1 hQ => ?_)
  obtain ⟨e1, n_am, n_st, n_sv, n_lt, n_hs, q9⟩ := hQ
  exact ⟨e1, ⟨_, _, _, _, _, _, _, _, _, _, _, _, _, _, _, n_am, n_st, n_sv, n_lt, n_hs, slb.keep q9 (by omega), sga.keep q9 (by omega), sex.keep q9 (by omega), spr.keep q9 (by omega), ssb.keep q9 (by omega)⟩, (q9.zone hz).wide (by omega) (by omega)⟩
set_option maxRecDepth 100000 in
set_option maxHeartbeats 4000000 in
theorem c_removeArgument {g : q_G} {h : q_H} {d : Nat} {hs : Bool} {se : Int32} {sf : Int32} {s : ZS} {s1 : ZS} {s2 : ZS} {nx : Nat} {kp : Nat} {rw : Nat → ZS} {ca : Int32} {cj : Int32} {co : Nat → Int32} {won : Nat → Int32} {lost : Nat → Int32} {pf : Nat → Int32} {cv : Nat → Int32} {sc : Nat} {pc : Nat} {pp : Nat} {po : Int32} {vb : Nat → Int32} {oa : Nat → Int32} {ob : Nat → Int32} {ic : Nat} {fi : Nat → Int32} {lc : Nat} {fl : Nat → Int32} (w : z_Cx h hs se sf s s1 s2 nx kp rw ca cj co won lost pf cv sc pc pp po vb oa ob ic fi lc fl) (xa : Int32)  (hd : 12 ≤ d) : q_Spec g mX10_removeArgument d 4 24 [.ref (100), .int (xa)] h (q_chg (q_oI ((x_am_removeArgument s nx kp rw xa).1)) (fun h1 => z_C h1 hs se sf ((x_am_removeArgument s nx kp rw xa).2.1) s1 ((x_am_removeArgument s nx kp rw xa).2.2.1) ((x_am_removeArgument s nx kp rw xa).2.2.2.1) ((x_am_removeArgument s nx kp rw xa).2.2.2.2) ic fi lc fl ∧ q_zone h h1 100 115)) := by
  obtain ⟨sam, sst, ssv, slt, shs, slb, sga, sex, spr, ssb⟩ := w
  have hz := ssb.s0
  refine q_Spec_mono (e_am_removeArgument (d := d) sam sst ssv slt shs xa hd) (fun o1 h1 hQ => ?_)
  obtain ⟨e1, n_am, n_st, n_sv, n_lt, n_hs, q9⟩ := hQ
  exact ⟨e1, ⟨_, _, _, _, _, _, _, _, _, _, _, _, _, _, _, n_am, n_st, n_sv, n_lt, n_hs, slb.keep q9 (by omega), sga.keep q9 (by omega), sex.keep q9 (by omega), spr.keep q9 (by omega), ssb.keep q9 (by omega)⟩, (q9.zone hz).wide (by omega) (by omega)⟩
set_option maxRecDepth 100000 in
set_option maxHeartbeats 4000000 in
theorem c_addAttack {g : q_G} {h : q_H} {d : Nat} {hs : Bool} {se : Int32} {sf : Int32} {s : ZS} {s1 : ZS} {s2 : ZS} {nx : Nat} {kp : Nat} {rw : Nat → ZS} {ca : Int32} {cj : Int32} {co : Nat → Int32} {won : Nat → Int32} {lost : Nat → Int32} {pf : Nat → Int32} {cv : Nat → Int32} {sc : Nat} {pc : Nat} {pp : Nat} {po : Int32} {vb : Nat → Int32} {oa : Nat → Int32} {ob : Nat → Int32} {ic : Nat} {fi : Nat → Int32} {lc : Nat} {fl : Nat → Int32} (w : z_Cx h hs se sf s s1 s2 nx kp rw ca cj co won lost pf cv sc pc pp po vb oa ob ic fi lc fl) (xa : Int32) (xb : Int32)  (hd : 12 ≤ d) : q_Spec g mX10_addAttack d 4 24 [.ref (100), .int (xa), .int (xb)] h (q_chg (q_oI ((x_am_addAttack s nx kp rw xa xb).1)) (fun h1 => z_C h1 hs se sf ((x_am_addAttack s nx kp rw xa xb).2.1) s1 ((x_am_addAttack s nx kp rw xa xb).2.2.1) ((x_am_addAttack s nx kp rw xa xb).2.2.2.1) ((x_am_addAttack s nx kp rw xa xb).2.2.2.2) ic fi lc fl ∧ q_zone h h1 100 115)) := by
  obtain ⟨sam, sst, ssv, slt, shs, slb, sga, sex, spr, ssb⟩ := w
  have hz := ssb.s0
  refine q_Spec_mono (e_am_addAttack (d := d) sam sst ssv slt shs xa xb hd) (fun o1 h1 hQ => ?_)
  obtain ⟨e1, n_am, n_st, n_sv, n_lt, n_hs, q9⟩ := hQ
  exact ⟨e1, ⟨_, _, _, _, _, _, _, _, _, _, _, _, _, _, _, n_am, n_st, n_sv, n_lt, n_hs, slb.keep q9 (by omega), sga.keep q9 (by omega), sex.keep q9 (by omega), spr.keep q9 (by omega), ssb.keep q9 (by omega)⟩, (q9.zone hz).wide (by omega) (by omega)⟩
set_option maxRecDepth 100000 in
set_option maxHeartbeats 4000000 in
theorem c_removeAttack {g : q_G} {h : q_H} {d : Nat} {hs : Bool} {se : Int32} {sf : Int32} {s : ZS} {s1 : ZS} {s2 : ZS} {nx : Nat} {kp : Nat} {rw : Nat → ZS} {ca : Int32} {cj : Int32} {co : Nat → Int32} {won : Nat → Int32} {lost : Nat → Int32} {pf : Nat → Int32} {cv : Nat → Int32} {sc : Nat} {pc : Nat} {pp : Nat} {po : Int32} {vb : Nat → Int32} {oa : Nat → Int32} {ob : Nat → Int32} {ic : Nat} {fi : Nat → Int32} {lc : Nat} {fl : Nat → Int32} (w : z_Cx h hs se sf s s1 s2 nx kp rw ca cj co won lost pf cv sc pc pp po vb oa ob ic fi lc fl) (xa : Int32) (xb : Int32)  (hd : 12 ≤ d) : q_Spec g mX10_removeAttack d 4 24 [.ref (100), .int (xa), .int (xb)] h (q_chg (q_oI ((x_am_removeAttack s nx kp rw xa xb).1)) (fun h1 => z_C h1 hs se sf ((x_am_removeAttack s nx kp rw xa xb).2.1) s1 ((x_am_removeAttack s nx kp rw xa xb).2.2.1) ((x_am_removeAttack s nx kp rw xa xb).2.2.2.1) ((x_am_removeAttack s nx kp rw xa xb).2.2.2.2) ic fi lc fl ∧ q_zone h h1 100 115)) := by
  obtain ⟨sam, sst, ssv, slt, shs, slb, sga, sex, spr, ssb⟩ := w
  have hz := ssb.s0
  refine q_Spec_mono (e_am_removeAttack (d := d) sam sst ssv slt shs xa xb hd) (fun o1 h1 hQ => ?_)
  obtain ⟨e1, n_am, n_st, n_sv, n_lt, n_hs, q9⟩ := hQ
  exact ⟨e1, ⟨_, _, _, _, _, _, _, _, _, _, _, _, _, _, _, n_am, n_st, n_sv, n_lt, n_hs, slb.keep q9 (by omega), sga.keep q9 (by omega), sex.keep q9 (by omega), spr.keep q9 (by omega), ssb.keep q9 (by omega)⟩, (q9.zone hz).wide (by omega) (by omega)⟩
set_option maxRecDepth 100000 in
set_option maxHeartbeats 4000000 in
theorem c_setWeight {g : q_G} {h : q_H} {d : Nat} {hs : Bool} {se : Int32} {sf : Int32} {s : ZS} {s1 : ZS} {s2 : ZS} {nx : Nat} {kp : Nat} {rw : Nat → ZS} {ca : Int32} {cj : Int32} {co : Nat → Int32} {won : Nat → Int32} {lost : Nat → Int32} {pf : Nat → Int32} {cv : Nat → Int32} {sc : Nat} {pc : Nat} {pp : Nat} {po : Int32} {vb : Nat → Int32} {oa : Nat → Int32} {ob : Nat → Int32} {ic : Nat} {fi : Nat → Int32} {lc : Nat} {fl : Nat → Int32} (w : z_Cx h hs se sf s s1 s2 nx kp rw ca cj co won lost pf cv sc pc pp po vb oa ob ic fi lc fl) (xa : Int32) (xb : Int32)  (hd : 12 ≤ d) : q_Spec g mX10_setWeight d 4 24 [.ref (100), .int (xa), .int (xb)] h (q_chg (q_oI ((x_am_setWeight s nx kp rw xa xb).1)) (fun h1 => z_C h1 hs se sf ((x_am_setWeight s nx kp rw xa xb).2.1) s1 ((x_am_setWeight s nx kp rw xa xb).2.2.1) ((x_am_setWeight s nx kp rw xa xb).2.2.2.1) ((x_am_setWeight s nx kp rw xa xb).2.2.2.2) ic fi lc fl ∧ q_zone h h1 100 115)) := by
  obtain ⟨sam, sst, ssv, slt, shs, slb, sga, sex, spr, ssb⟩ := w
  have hz := ssb.s0
  refine q_Spec_mono (e_am_setWeight (d := d) sam sst ssv slt shs xa xb hd) (fun o1 h1 hQ => ?_)
  obtain ⟨e1, n_am, n_st, n_sv, n_lt, n_hs, q9⟩ := hQ
  exact ⟨e1, ⟨_, _, _, _, _, _, _, _, _, _, _, _, _, _, _, n_am, n_st, n_sv, n_lt, n_hs, slb.keep q9 (by omega), sga.keep q9 (by omega), sex.keep q9 (by omega), spr.keep q9 (by omega), ssb.keep q9 (by omega)⟩, (q9.zone hz).wide (by omega) (by omega)⟩
set_option maxRecDepth 100000 in
set_option maxHeartbeats 4000000 in
theorem c_renew {g : q_G} {h : q_H} {d : Nat} {hs : Bool} {se : Int32} {sf : Int32} {s : ZS} {s1 : ZS} {s2 : ZS} {nx : Nat} {kp : Nat} {rw : Nat → ZS} {ca : Int32} {cj : Int32} {co : Nat → Int32} {won : Nat → Int32} {lost : Nat → Int32} {pf : Nat → Int32} {cv : Nat → Int32} {sc : Nat} {pc : Nat} {pp : Nat} {po : Int32} {vb : Nat → Int32} {oa : Nat → Int32} {ob : Nat → Int32} {ic : Nat} {fi : Nat → Int32} {lc : Nat} {fl : Nat → Int32} (w : z_Cx h hs se sf s s1 s2 nx kp rw ca cj co won lost pf cv sc pc pp po vb oa ob ic fi lc fl) (xa : Int32)  (hd : 12 ≤ d) : q_Spec g mX10_renew d 4 24 [.ref (100), .int (xa)] h (q_chg (q_oI ((x_am_renew s nx kp rw xa).1)) (fun h1 => z_C h1 hs se sf ((x_am_renew s nx kp rw xa).2.1) s1 ((x_am_renew s nx kp rw xa).2.2.1) ((x_am_renew s nx kp rw xa).2.2.2.1) ((x_am_renew s nx kp rw xa).2.2.2.2) ic fi lc fl ∧ q_zone h h1 100 115)) := by
  obtain ⟨sam, sst, ssv, slt, shs, slb, sga, sex, spr, ssb⟩ := w
  have hz := ssb.s0
  refine q_Spec_mono (e_am_renew (d := d) sam sst ssv slt shs xa hd) (fun o1 h1 hQ => ?_)
  obtain ⟨e1, n_am, n_st, n_sv, n_lt, n_hs, q9⟩ := hQ
  exact ⟨e1, ⟨_, _, _, _, _, _, _, _, _, _, _, _, _, _, _, n_am, n_st, n_sv, n_lt, n_hs, slb.keep q9 (by omega), sga.keep q9 (by omega), sex.keep q9 (by omega), spr.keep q9 (by omega), ssb.keep q9 (by omega)⟩, (q9.zone hz).wide (by omega) (by omega)⟩
set_option maxRecDepth 100000 in
set_option maxHeartbeats 4000000 in
theorem c_startDialogue {g : q_G} {h : q_H} {d : Nat} {hs : Bool} {se : Int32} {sf : Int32} {s : ZS} {s1 : ZS} {s2 : ZS} {nx : Nat} {kp : Nat} {rw : Nat → ZS} {ca : Int32} {cj : Int32} {co : Nat → Int32} {won : Nat → Int32} {lost : Nat → Int32} {pf : Nat → Int32} {cv : Nat → Int32} {sc : Nat} {pc : Nat} {pp : Nat} {po : Int32} {vb : Nat → Int32} {oa : Nat → Int32} {ob : Nat → Int32} {ic : Nat} {fi : Nat → Int32} {lc : Nat} {fl : Nat → Int32} (w : z_Cx h hs se sf s s1 s2 nx kp rw ca cj co won lost pf cv sc pc pp po vb oa ob ic fi lc fl) (xa : Int32)  (hd : 12 ≤ d) : q_Spec g mX10_startDialogue d 4 24 [.ref (100), .int (xa)] h (q_chg (q_oI ((x_am_startDialogue s nx kp rw xa).1)) (fun h1 => z_C h1 hs se sf ((x_am_startDialogue s nx kp rw xa).2.1) s1 ((x_am_startDialogue s nx kp rw xa).2.2.1) ((x_am_startDialogue s nx kp rw xa).2.2.2.1) ((x_am_startDialogue s nx kp rw xa).2.2.2.2) ic fi lc fl ∧ q_zone h h1 100 115)) := by
  obtain ⟨sam, sst, ssv, slt, shs, slb, sga, sex, spr, ssb⟩ := w
  have hz := ssb.s0
  refine q_Spec_mono (e_am_startDialogue (d := d) sam sst ssv slt shs xa hd) (fun o1 h1 hQ => ?_)
  obtain ⟨e1, n_am, n_st, n_sv, n_lt, n_hs, q9⟩ := hQ
  exact ⟨e1, ⟨_, _, _, _, _, _, _, _, _, _, _, _, _, _, _, n_am, n_st, n_sv, n_lt, n_hs, slb.keep q9 (by omega), sga.keep q9 (by omega), sex.keep q9 (by omega), spr.keep q9 (by omega), ssb.keep q9 (by omega)⟩, (q9.zone hz).wide (by omega) (by omega)⟩
set_option maxRecDepth 100000 in
set_option maxHeartbeats 4000000 in
theorem c_move {g : q_G} {h : q_H} {d : Nat} {hs : Bool} {se : Int32} {sf : Int32} {s : ZS} {s1 : ZS} {s2 : ZS} {nx : Nat} {kp : Nat} {rw : Nat → ZS} {ca : Int32} {cj : Int32} {co : Nat → Int32} {won : Nat → Int32} {lost : Nat → Int32} {pf : Nat → Int32} {cv : Nat → Int32} {sc : Nat} {pc : Nat} {pp : Nat} {po : Int32} {vb : Nat → Int32} {oa : Nat → Int32} {ob : Nat → Int32} {ic : Nat} {fi : Nat → Int32} {lc : Nat} {fl : Nat → Int32} (w : z_Cx h hs se sf s s1 s2 nx kp rw ca cj co won lost pf cv sc pc pp po vb oa ob ic fi lc fl) (xa : Int32)  (hd : 12 ≤ d) : q_Spec g mX10_move d 4 24 [.ref (100), .int (xa)] h (q_chg (q_oI ((x_am_move s nx kp rw xa).1)) (fun h1 => z_C h1 hs se sf ((x_am_move s nx kp rw xa).2.1) s1 ((x_am_move s nx kp rw xa).2.2.1) ((x_am_move s nx kp rw xa).2.2.2.1) ((x_am_move s nx kp rw xa).2.2.2.2) ic fi lc fl ∧ q_zone h h1 100 115)) := by
  obtain ⟨sam, sst, ssv, slt, shs, slb, sga, sex, spr, ssb⟩ := w
  have hz := ssb.s0
  refine q_Spec_mono (e_am_move (d := d) sam sst ssv slt shs xa hd) (fun o1 h1 hQ => ?_)
  obtain ⟨e1, n_am, n_st, n_sv, n_lt, n_hs, q9⟩ := hQ
  exact ⟨e1, ⟨_, _, _, _, _, _, _, _, _, _, _, _, _, _, _, n_am, n_st, n_sv, n_lt, n_hs, slb.keep q9 (by omega), sga.keep q9 (by omega), sex.keep q9 (by omega), spr.keep q9 (by omega), ssb.keep q9 (by omega)⟩, (q9.zone hz).wide (by omega) (by omega)⟩
set_option maxRecDepth 100000 in
set_option maxHeartbeats 4000000 in
theorem c_takeBack {g : q_G} {h : q_H} {d : Nat} {hs : Bool} {se : Int32} {sf : Int32} {s : ZS} {s1 : ZS} {s2 : ZS} {nx : Nat} {kp : Nat} {rw : Nat → ZS} {ca : Int32} {cj : Int32} {co : Nat → Int32} {won : Nat → Int32} {lost : Nat → Int32} {pf : Nat → Int32} {cv : Nat → Int32} {sc : Nat} {pc : Nat} {pp : Nat} {po : Int32} {vb : Nat → Int32} {oa : Nat → Int32} {ob : Nat → Int32} {ic : Nat} {fi : Nat → Int32} {lc : Nat} {fl : Nat → Int32} (w : z_Cx h hs se sf s s1 s2 nx kp rw ca cj co won lost pf cv sc pc pp po vb oa ob ic fi lc fl)   (hd : 12 ≤ d) : q_Spec g mX10_takeBack d 4 24 [.ref (100)] h (q_chg (q_oI ((x_am_takeBack s nx kp rw).1)) (fun h1 => z_C h1 hs se sf ((x_am_takeBack s nx kp rw).2.1) s1 ((x_am_takeBack s nx kp rw).2.2.1) ((x_am_takeBack s nx kp rw).2.2.2.1) ((x_am_takeBack s nx kp rw).2.2.2.2) ic fi lc fl ∧ q_zone h h1 100 115)) := by
  obtain ⟨sam, sst, ssv, slt, shs, slb, sga, sex, spr, ssb⟩ := w
  have hz := ssb.s0
  refine q_Spec_mono (e_am_takeBack (d := d) sam sst ssv slt shs hd) (fun o1 h1 hQ => ?_)
  obtain ⟨e1, n_am, n_st, n_sv, n_lt, n_hs, q9⟩ := hQ
  exact ⟨e1, ⟨_, _, _, _, _, _, _, _, _, _, _, _, _, _, _, n_am, n_st, n_sv, n_lt, n_hs, slb.keep q9 (by omega), sga.keep q9 (by omega), sex.keep q9 (by omega), spr.keep q9 (by omega), ssb.keep q9 (by omega)⟩, (q9.zone hz).wide (by omega) (by omega)⟩
set_option maxRecDepth 100000 in
set_option maxHeartbeats 4000000 in
theorem c_endDialogue {g : q_G} {h : q_H} {d : Nat} {hs : Bool} {se : Int32} {sf : Int32} {s : ZS} {s1 : ZS} {s2 : ZS} {nx : Nat} {kp : Nat} {rw : Nat → ZS} {ca : Int32} {cj : Int32} {co : Nat → Int32} {won : Nat → Int32} {lost : Nat → Int32} {pf : Nat → Int32} {cv : Nat → Int32} {sc : Nat} {pc : Nat} {pp : Nat} {po : Int32} {vb : Nat → Int32} {oa : Nat → Int32} {ob : Nat → Int32} {ic : Nat} {fi : Nat → Int32} {lc : Nat} {fl : Nat → Int32} (w : z_Cx h hs se sf s s1 s2 nx kp rw ca cj co won lost pf cv sc pc pp po vb oa ob ic fi lc fl)   (hd : 12 ≤ d) : q_Spec g mX10_endDialogue d 4 24 [.ref (100)] h (q_chg (q_oI ((x_am_endDialogue s nx kp rw).1)) (fun h1 => z_C h1 hs se sf ((x_am_endDialogue s nx kp rw).2.1) s1 ((x_am_endDialogue s nx kp rw).2.2.1) ((x_am_endDialogue s nx kp rw).2.2.2.1) ((x_am_endDialogue s nx kp rw).2.2.2.2) ic fi lc fl ∧ q_zone h h1 100 115)) := by
  obtain ⟨sam, sst, ssv, slt, shs, slb, sga, sex, spr, ssb⟩ := w
  have hz := ssb.s0
  refine q_Spec_mono (e_am_endDialogue (d := d) sam sst ssv slt shs hd) (fun o1 h1 hQ => ?_)
  obtain ⟨e1, n_am, n_st, n_sv, n_lt, n_hs, q9⟩ := hQ
  exact ⟨e1, ⟨_, _, _, _, _, _, _, _, _, _, _, _, _, _, _, n_am, n_st, n_sv, n_lt, n_hs, slb.keep q9 (by omega), sga.keep q9 (by omega), sex.keep q9 (by omega), spr.keep q9 (by omega), ssb.keep q9 (by omega)⟩, (q9.zone hz).wide (by omega) (by omega)⟩
set_option maxRecDepth 100000 in
set_option maxHeartbeats 4000000 in
theorem c_pass {g : q_G} {h : q_H} {d : Nat} {hs : Bool} {se : Int32} {sf : Int32} {s : ZS} {s1 : ZS} {s2 : ZS} {nx : Nat} {kp : Nat} {rw : Nat → ZS} {ca : Int32} {cj : Int32} {co : Nat → Int32} {won : Nat → Int32} {lost : Nat → Int32} {pf : Nat → Int32} {cv : Nat → Int32} {sc : Nat} {pc : Nat} {pp : Nat} {po : Int32} {vb : Nat → Int32} {oa : Nat → Int32} {ob : Nat → Int32} {ic : Nat} {fi : Nat → Int32} {lc : Nat} {fl : Nat → Int32} (w : z_Cx h hs se sf s s1 s2 nx kp rw ca cj co won lost pf cv sc pc pp po vb oa ob ic fi lc fl) (xa : Int32)  (hd : 12 ≤ d) : q_Spec g mX10_pass d 4 24 [.ref (100), .int (xa)] h (q_chg (q_oI ((x_am_pass s nx kp rw xa).1)) (fun h1 => z_C h1 hs se sf ((x_am_pass s nx kp rw xa).2.1) s1 ((x_am_pass s nx kp rw xa).2.2.1) ((x_am_pass s nx kp rw xa).2.2.2.1) ((x_am_pass s nx kp rw xa).2.2.2.2) ic fi lc fl ∧ q_zone h h1 100 115)) := by
  obtain ⟨sam, sst, ssv, slt, shs, slb, sga, sex, spr, ssb⟩ := w
  have hz := ssb.s0
  refine q_Spec_mono (e_am_pass (d := d) sam sst ssv slt shs xa hd) (fun o1 h1 hQ => ?_)
  obtain ⟨e1, n_am, n_st, n_sv, n_lt, n_hs, q9⟩ := hQ
  exact ⟨e1, ⟨_, _, _, _, _, _, _, _, _, _, _, _, _, _, _, n_am, n_st, n_sv, n_lt, n_hs, slb.keep q9 (by omega), sga.keep q9 (by omega), sex.keep q9 (by omega), spr.keep q9 (by omega), ssb.keep q9 (by omega)⟩, (q9.zone hz).wide (by omega) (by omega)⟩
set_option maxRecDepth 100000 in
set_option maxHeartbeats 4000000 in
theorem c_argumentCount {g : q_G} {h : q_H} {d : Nat} {hs : Bool} {se : Int32} {sf : Int32} {s : ZS} {s1 : ZS} {s2 : ZS} {nx : Nat} {kp : Nat} {rw : Nat → ZS} {ca : Int32} {cj : Int32} {co : Nat → Int32} {won : Nat → Int32} {lost : Nat → Int32} {pf : Nat → Int32} {cv : Nat → Int32} {sc : Nat} {pc : Nat} {pp : Nat} {po : Int32} {vb : Nat → Int32} {oa : Nat → Int32} {ob : Nat → Int32} {ic : Nat} {fi : Nat → Int32} {lc : Nat} {fl : Nat → Int32} (w : z_Cx h hs se sf s s1 s2 nx kp rw ca cj co won lost pf cv sc pc pp po vb oa ob ic fi lc fl)   (hd : 0 ≤ d) : q_Spec g mX10_argumentCount d 0 0 [.ref (100)] h (q_chg (.inl (some (.int ((x_am_argumentCount s.1))))) (fun h1 => z_C h1 hs se sf s s1 nx kp rw ic fi lc fl ∧ q_zone h h1 100 115)) := by
  obtain ⟨sam, sst, ssv, slt, shs, slb, sga, sex, spr, ssb⟩ := w
  have hz := ssb.s0
  refine q_Spec_mono (e_am_argumentCount (d := d) sam sst hd) (fun o1 h1 hQ => ?_)
  obtain ⟨e1, rfl⟩ := hQ
  exact ⟨e1, ⟨⟨s2, ca, cj, co, won, lost, pf, cv, sc, pc, pp, po, vb, oa, ob, sam, sst, ssv, slt, shs, slb, sga, sex, spr, ssb⟩, q_zone.rfl'⟩⟩
set_option maxRecDepth 100000 in
set_option maxHeartbeats 4000000 in
theorem c_idAt {g : q_G} {h : q_H} {d : Nat} {hs : Bool} {se : Int32} {sf : Int32} {s : ZS} {s1 : ZS} {s2 : ZS} {nx : Nat} {kp : Nat} {rw : Nat → ZS} {ca : Int32} {cj : Int32} {co : Nat → Int32} {won : Nat → Int32} {lost : Nat → Int32} {pf : Nat → Int32} {cv : Nat → Int32} {sc : Nat} {pc : Nat} {pp : Nat} {po : Int32} {vb : Nat → Int32} {oa : Nat → Int32} {ob : Nat → Int32} {ic : Nat} {fi : Nat → Int32} {lc : Nat} {fl : Nat → Int32} (w : z_Cx h hs se sf s s1 s2 nx kp rw ca cj co won lost pf cv sc pc pp po vb oa ob ic fi lc fl) (xp : Int32)  (hd : 7 ≤ d) : q_Spec g mX10_idAt d 1 6 [.ref (100), .int (xp)] h (q_chg (q_oI ((x_am_idAt s.1 s.2.1 xp))) (fun h1 => z_C h1 hs se sf s s1 nx kp rw ic fi lc fl ∧ q_zone h h1 100 115)) := by
  obtain ⟨sam, sst, ssv, slt, shs, slb, sga, sex, spr, ssb⟩ := w
  have hz := ssb.s0
  refine q_Spec_mono (e_am_idAt (d := d) sam sst xp hd) (fun o1 h1 hQ => ?_)
  revert hQ
  rcases x_am_idAt s.1 s.2.1 xp with v | E
  · rintro ⟨e1, rfl⟩
    exact ⟨e1, ⟨⟨s2, ca, cj, co, won, lost, pf, cv, sc, pc, pp, po, vb, oa, ob, sam, sst, ssv, slt, shs, slb, sga, sex, spr, ssb⟩, q_zone.rfl'⟩⟩
  · rintro ⟨e1, rfl⟩
    exact ⟨e1, ⟨s2, ca, cj, co, won, lost, pf, cv, sc, pc, pp, po, vb, oa, ob, sam.keepI (Nat.le_succ _) (fun _ _ _ => rfl), sst.keepI (Nat.le_succ _) (fun _ _ _ => rfl), ssv.keepI (Nat.le_succ _) (fun _ _ _ => rfl), slt.keepI (Nat.le_succ _) (fun _ _ _ => rfl), shs.keepI (Nat.le_succ _) (fun _ _ _ => rfl), slb.keepI (Nat.le_succ _) (fun _ _ _ => rfl), sga.keepI (Nat.le_succ _) (fun _ _ _ => rfl), sex.keepI (Nat.le_succ _) (fun _ _ _ => rfl), spr.keepI (Nat.le_succ _) (fun _ _ _ => rfl), ssb.keep (q_same.skip (a := 215) (k := 0)) (by omega)⟩, q_zone.skip hz⟩
set_option maxRecDepth 100000 in
set_option maxHeartbeats 4000000 in
theorem c_weightOf {g : q_G} {h : q_H} {d : Nat} {hs : Bool} {se : Int32} {sf : Int32} {s : ZS} {s1 : ZS} {s2 : ZS} {nx : Nat} {kp : Nat} {rw : Nat → ZS} {ca : Int32} {cj : Int32} {co : Nat → Int32} {won : Nat → Int32} {lost : Nat → Int32} {pf : Nat → Int32} {cv : Nat → Int32} {sc : Nat} {pc : Nat} {pp : Nat} {po : Int32} {vb : Nat → Int32} {oa : Nat → Int32} {ob : Nat → Int32} {ic : Nat} {fi : Nat → Int32} {lc : Nat} {fl : Nat → Int32} (w : z_Cx h hs se sf s s1 s2 nx kp rw ca cj co won lost pf cv sc pc pp po vb oa ob ic fi lc fl) (xid : Int32)  (hd : 8 ≤ d) : q_Spec g mX10_weightOf d 1 6 [.ref (100), .int (xid)] h (q_chg (q_oI ((x_am_weightOf s.1 s.2.1 s.2.2.1 xid))) (fun h1 => z_C h1 hs se sf s s1 nx kp rw ic fi lc fl ∧ q_zone h h1 100 115)) := by
  obtain ⟨sam, sst, ssv, slt, shs, slb, sga, sex, spr, ssb⟩ := w
  have hz := ssb.s0
  refine q_Spec_mono (e_am_weightOf (d := d) sam sst xid hd) (fun o1 h1 hQ => ?_)
  revert hQ
  rcases x_am_weightOf s.1 s.2.1 s.2.2.1 xid with v | E
  · rintro ⟨e1, rfl⟩
    exact ⟨e1, ⟨⟨s2, ca, cj, co, won, lost, pf, cv, sc, pc, pp, po, vb, oa, ob, sam, sst, ssv, slt, shs, slb, sga, sex, spr, ssb⟩, q_zone.rfl'⟩⟩
  · rintro ⟨e1, rfl⟩
    exact ⟨e1, ⟨s2, ca, cj, co, won, lost, pf, cv, sc, pc, pp, po, vb, oa, ob, sam.keepI (Nat.le_succ _) (fun _ _ _ => rfl), sst.keepI (Nat.le_succ _) (fun _ _ _ => rfl), ssv.keepI (Nat.le_succ _) (fun _ _ _ => rfl), slt.keepI (Nat.le_succ _) (fun _ _ _ => rfl), shs.keepI (Nat.le_succ _) (fun _ _ _ => rfl), slb.keepI (Nat.le_succ _) (fun _ _ _ => rfl), sga.keepI (Nat.le_succ _) (fun _ _ _ => rfl), sex.keepI (Nat.le_succ _) (fun _ _ _ => rfl), spr.keepI (Nat.le_succ _) (fun _ _ _ => rfl), ssb.keep (q_same.skip (a := 215) (k := 0)) (by omega)⟩, q_zone.skip hz⟩
set_option maxRecDepth 100000 in
set_option maxHeartbeats 4000000 in
theorem c_ageOf {g : q_G} {h : q_H} {d : Nat} {hs : Bool} {se : Int32} {sf : Int32} {s : ZS} {s1 : ZS} {s2 : ZS} {nx : Nat} {kp : Nat} {rw : Nat → ZS} {ca : Int32} {cj : Int32} {co : Nat → Int32} {won : Nat → Int32} {lost : Nat → Int32} {pf : Nat → Int32} {cv : Nat → Int32} {sc : Nat} {pc : Nat} {pp : Nat} {po : Int32} {vb : Nat → Int32} {oa : Nat → Int32} {ob : Nat → Int32} {ic : Nat} {fi : Nat → Int32} {lc : Nat} {fl : Nat → Int32} (w : z_Cx h hs se sf s s1 s2 nx kp rw ca cj co won lost pf cv sc pc pp po vb oa ob ic fi lc fl) (xid : Int32)  (hd : 8 ≤ d) : q_Spec g mX10_ageOf d 1 6 [.ref (100), .int (xid)] h (q_chg (q_oI ((x_am_ageOf s.1 s.2.1 s.2.2.2.1 xid))) (fun h1 => z_C h1 hs se sf s s1 nx kp rw ic fi lc fl ∧ q_zone h h1 100 115)) := by
  obtain ⟨sam, sst, ssv, slt, shs, slb, sga, sex, spr, ssb⟩ := w
  have hz := ssb.s0
  refine q_Spec_mono (e_am_ageOf (d := d) sam sst xid hd) (fun o1 h1 hQ => ?_)
  revert hQ
  rcases x_am_ageOf s.1 s.2.1 s.2.2.2.1 xid with v | E
  · rintro ⟨e1, rfl⟩
    exact ⟨e1, ⟨⟨s2, ca, cj, co, won, lost, pf, cv, sc, pc, pp, po, vb, oa, ob, sam, sst, ssv, slt, shs, slb, sga, sex, spr, ssb⟩, q_zone.rfl'⟩⟩
  · rintro ⟨e1, rfl⟩
    exact ⟨e1, ⟨s2, ca, cj, co, won, lost, pf, cv, sc, pc, pp, po, vb, oa, ob, sam.keepI (Nat.le_succ _) (fun _ _ _ => rfl), sst.keepI (Nat.le_succ _) (fun _ _ _ => rfl), ssv.keepI (Nat.le_succ _) (fun _ _ _ => rfl), slt.keepI (Nat.le_succ _) (fun _ _ _ => rfl), shs.keepI (Nat.le_succ _) (fun _ _ _ => rfl), slb.keepI (Nat.le_succ _) (fun _ _ _ => rfl), sga.keepI (Nat.le_succ _) (fun _ _ _ => rfl), sex.keepI (Nat.le_succ _) (fun _ _ _ => rfl), spr.keepI (Nat.le_succ _) (fun _ _ _ => rfl), ssb.keep (q_same.skip (a := 215) (k := 0)) (by omega)⟩, q_zone.skip hz⟩
set_option maxRecDepth 100000 in
set_option maxHeartbeats 4000000 in
theorem c_strengthOf {g : q_G} {h : q_H} {d : Nat} {hs : Bool} {se : Int32} {sf : Int32} {s : ZS} {s1 : ZS} {s2 : ZS} {nx : Nat} {kp : Nat} {rw : Nat → ZS} {ca : Int32} {cj : Int32} {co : Nat → Int32} {won : Nat → Int32} {lost : Nat → Int32} {pf : Nat → Int32} {cv : Nat → Int32} {sc : Nat} {pc : Nat} {pp : Nat} {po : Int32} {vb : Nat → Int32} {oa : Nat → Int32} {ob : Nat → Int32} {ic : Nat} {fi : Nat → Int32} {lc : Nat} {fl : Nat → Int32} (w : z_Cx h hs se sf s s1 s2 nx kp rw ca cj co won lost pf cv sc pc pp po vb oa ob ic fi lc fl) (xid : Int32)  (hd : 8 ≤ d) : q_Spec g mX10_strengthOf d 1 6 [.ref (100), .int (xid)] h (q_chg (q_oI ((x_am_strengthOf s.1 s.2.1 s.2.2.1 s.2.2.2.1 xid))) (fun h1 => z_C h1 hs se sf s s1 nx kp rw ic fi lc fl ∧ q_zone h h1 100 115)) := by
  obtain ⟨sam, sst, ssv, slt, shs, slb, sga, sex, spr, ssb⟩ := w
  have hz := ssb.s0
  refine q_Spec_mono (e_am_strengthOf (d := d) sam sst xid hd) (fun o1 h1 hQ => ?_)
  revert hQ
  rcases x_am_strengthOf s.1 s.2.1 s.2.2.1 s.2.2.2.1 xid with v | E
  · rintro ⟨e1, rfl⟩
    exact ⟨e1, ⟨⟨s2, ca, cj, co, won, lost, pf, cv, sc, pc, pp, po, vb, oa, ob, sam, sst, ssv, slt, shs, slb, sga, sex, spr, ssb⟩, q_zone.rfl'⟩⟩
  · rintro ⟨e1, rfl⟩
    exact ⟨e1, ⟨s2, ca, cj, co, won, lost, pf, cv, sc, pc, pp, po, vb, oa, ob, sam.keepI (Nat.le_succ _) (fun _ _ _ => rfl), sst.keepI (Nat.le_succ _) (fun _ _ _ => rfl), ssv.keepI (Nat.le_succ _) (fun _ _ _ => rfl), slt.keepI (Nat.le_succ _) (fun _ _ _ => rfl), shs.keepI (Nat.le_succ _) (fun _ _ _ => rfl), slb.keepI (Nat.le_succ _) (fun _ _ _ => rfl), sga.keepI (Nat.le_succ _) (fun _ _ _ => rfl), sex.keepI (Nat.le_succ _) (fun _ _ _ => rfl), spr.keepI (Nat.le_succ _) (fun _ _ _ => rfl), ssb.keep (q_same.skip (a := 215) (k := 0)) (by omega)⟩, q_zone.skip hz⟩
set_option maxRecDepth 100000 in
set_option maxHeartbeats 4000000 in
theorem c_attackCount {g : q_G} {h : q_H} {d : Nat} {hs : Bool} {se : Int32} {sf : Int32} {s : ZS} {s1 : ZS} {s2 : ZS} {nx : Nat} {kp : Nat} {rw : Nat → ZS} {ca : Int32} {cj : Int32} {co : Nat → Int32} {won : Nat → Int32} {lost : Nat → Int32} {pf : Nat → Int32} {cv : Nat → Int32} {sc : Nat} {pc : Nat} {pp : Nat} {po : Int32} {vb : Nat → Int32} {oa : Nat → Int32} {ob : Nat → Int32} {ic : Nat} {fi : Nat → Int32} {lc : Nat} {fl : Nat → Int32} (w : z_Cx h hs se sf s s1 s2 nx kp rw ca cj co won lost pf cv sc pc pp po vb oa ob ic fi lc fl)   (hd : 2 ≤ d) : q_Spec g mX10_attackCount d 0 0 [.ref (100)] h (q_chg (.inl (some (.int ((x_am_attackCount s.1 s.2.2.2.2.1))))) (fun h1 => z_C h1 hs se sf s s1 nx kp rw ic fi lc fl ∧ q_zone h h1 100 115)) := by
  obtain ⟨sam, sst, ssv, slt, shs, slb, sga, sex, spr, ssb⟩ := w
  have hz := ssb.s0
  refine q_Spec_mono (e_am_attackCount (d := d) sam sst hd) (fun o1 h1 hQ => ?_)
  obtain ⟨e1, rfl⟩ := hQ
  exact ⟨e1, ⟨⟨s2, ca, cj, co, won, lost, pf, cv, sc, pc, pp, po, vb, oa, ob, sam, sst, ssv, slt, shs, slb, sga, sex, spr, ssb⟩, q_zone.rfl'⟩⟩
set_option maxRecDepth 100000 in
set_option maxHeartbeats 4000000 in
theorem c_hasAttack {g : q_G} {h : q_H} {d : Nat} {hs : Bool} {se : Int32} {sf : Int32} {s : ZS} {s1 : ZS} {s2 : ZS} {nx : Nat} {kp : Nat} {rw : Nat → ZS} {ca : Int32} {cj : Int32} {co : Nat → Int32} {won : Nat → Int32} {lost : Nat → Int32} {pf : Nat → Int32} {cv : Nat → Int32} {sc : Nat} {pc : Nat} {pp : Nat} {po : Int32} {vb : Nat → Int32} {oa : Nat → Int32} {ob : Nat → Int32} {ic : Nat} {fi : Nat → Int32} {lc : Nat} {fl : Nat → Int32} (w : z_Cx h hs se sf s s1 s2 nx kp rw ca cj co won lost pf cv sc pc pp po vb oa ob ic fi lc fl) (xf : Int32) (xt : Int32)  (hd : 8 ≤ d) : q_Spec g mX10_hasAttack d 2 12 [.ref (100), .int (xf), .int (xt)] h (q_chg (q_oB ((x_am_hasAttack s.1 s.2.1 s.2.2.2.2.1 xf xt))) (fun h1 => z_C h1 hs se sf s s1 nx kp rw ic fi lc fl ∧ q_zone h h1 100 115)) := by
  obtain ⟨sam, sst, ssv, slt, shs, slb, sga, sex, spr, ssb⟩ := w
  have hz := ssb.s0
  refine q_Spec_mono (e_am_hasAttack (d := d) sam sst xf xt hd) (fun o1 h1 hQ => ?_)
  revert hQ
  rcases x_am_hasAttack s.1 s.2.1 s.2.2.2.2.1 xf xt with v | E
  · rintro ⟨e1, rfl⟩
    exact ⟨e1, ⟨⟨s2, ca, cj, co, won, lost, pf, cv, sc, pc, pp, po, vb, oa, ob, sam, sst, ssv, slt, shs, slb, sga, sex, spr, ssb⟩, q_zone.rfl'⟩⟩
  · rintro ⟨e1, rfl⟩
    exact ⟨e1, ⟨s2, ca, cj, co, won, lost, pf, cv, sc, pc, pp, po, vb, oa, ob, sam.keepI (Nat.le_succ _) (fun _ _ _ => rfl), sst.keepI (Nat.le_succ _) (fun _ _ _ => rfl), ssv.keepI (Nat.le_succ _) (fun _ _ _ => rfl), slt.keepI (Nat.le_succ _) (fun _ _ _ => rfl), shs.keepI (Nat.le_succ _) (fun _ _ _ => rfl), slb.keepI (Nat.le_succ _) (fun _ _ _ => rfl), sga.keepI (Nat.le_succ _) (fun _ _ _ => rfl), sex.keepI (Nat.le_succ _) (fun _ _ _ => rfl), spr.keepI (Nat.le_succ _) (fun _ _ _ => rfl), ssb.keep (q_same.skip (a := 215) (k := 0)) (by omega)⟩, q_zone.skip hz⟩
set_option maxRecDepth 100000 in
set_option maxHeartbeats 4000000 in
theorem c_isSuccessful {g : q_G} {h : q_H} {d : Nat} {hs : Bool} {se : Int32} {sf : Int32} {s : ZS} {s1 : ZS} {s2 : ZS} {nx : Nat} {kp : Nat} {rw : Nat → ZS} {ca : Int32} {cj : Int32} {co : Nat → Int32} {won : Nat → Int32} {lost : Nat → Int32} {pf : Nat → Int32} {cv : Nat → Int32} {sc : Nat} {pc : Nat} {pp : Nat} {po : Int32} {vb : Nat → Int32} {oa : Nat → Int32} {ob : Nat → Int32} {ic : Nat} {fi : Nat → Int32} {lc : Nat} {fl : Nat → Int32} (w : z_Cx h hs se sf s s1 s2 nx kp rw ca cj co won lost pf cv sc pc pp po vb oa ob ic fi lc fl) (xf : Int32) (xt : Int32)  (hd : 8 ≤ d) : q_Spec g mX10_isSuccessful d 3 18 [.ref (100), .int (xf), .int (xt)] h (q_chg (q_oB ((x_am_isSuccessful s.1 s.2.1 s.2.2.2.2.1 s.2.2.2.2.2.1 xf xt))) (fun h1 => z_C h1 hs se sf s s1 nx kp rw ic fi lc fl ∧ q_zone h h1 100 115)) := by
  obtain ⟨sam, sst, ssv, slt, shs, slb, sga, sex, spr, ssb⟩ := w
  have hz := ssb.s0
  refine q_Spec_mono (e_am_isSuccessful (d := d) sam sst xf xt hd) (fun o1 h1 hQ => ?_)
  revert hQ
  rcases x_am_isSuccessful s.1 s.2.1 s.2.2.2.2.1 s.2.2.2.2.2.1 xf xt with v | E
  · rintro ⟨e1, rfl⟩
    exact ⟨e1, ⟨⟨s2, ca, cj, co, won, lost, pf, cv, sc, pc, pp, po, vb, oa, ob, sam, sst, ssv, slt, shs, slb, sga, sex, spr, ssb⟩, q_zone.rfl'⟩⟩
  · rintro ⟨e1, rfl⟩
    exact ⟨e1, ⟨s2, ca, cj, co, won, lost, pf, cv, sc, pc, pp, po, vb, oa, ob, sam.keepI (Nat.le_succ _) (fun _ _ _ => rfl), sst.keepI (Nat.le_succ _) (fun _ _ _ => rfl), ssv.keepI (Nat.le_succ _) (fun _ _ _ => rfl), slt.keepI (Nat.le_succ _) (fun _ _ _ => rfl), shs.keepI (Nat.le_succ _) (fun _ _ _ => rfl), slb.keepI (Nat.le_succ _) (fun _ _ _ => rfl), sga.keepI (Nat.le_succ _) (fun _ _ _ => rfl), sex.keepI (Nat.le_succ _) (fun _ _ _ => rfl), spr.keepI (Nat.le_succ _) (fun _ _ _ => rfl), ssb.keep (q_same.skip (a := 215) (k := 0)) (by omega)⟩, q_zone.skip hz⟩
set_option maxRecDepth 100000 in
set_option maxHeartbeats 4000000 in
theorem c_successfulCount {g : q_G} {h : q_H} {d : Nat} {hs : Bool} {se : Int32} {sf : Int32} {s : ZS} {s1 : ZS} {s2 : ZS} {nx : Nat} {kp : Nat} {rw : Nat → ZS} {ca : Int32} {cj : Int32} {co : Nat → Int32} {won : Nat → Int32} {lost : Nat → Int32} {pf : Nat → Int32} {cv : Nat → Int32} {sc : Nat} {pc : Nat} {pp : Nat} {po : Int32} {vb : Nat → Int32} {oa : Nat → Int32} {ob : Nat → Int32} {ic : Nat} {fi : Nat → Int32} {lc : Nat} {fl : Nat → Int32} (w : z_Cx h hs se sf s s1 s2 nx kp rw ca cj co won lost pf cv sc pc pp po vb oa ob ic fi lc fl)   (hd : 1 ≤ d) : q_Spec g mX10_successfulCount d 0 0 [.ref (100)] h (q_chg (.inl (some (.int ((x_am_successfulCount s.1 s.2.2.2.2.2.1))))) (fun h1 => z_C h1 hs se sf s s1 nx kp rw ic fi lc fl ∧ q_zone h h1 100 115)) := by
  obtain ⟨sam, sst, ssv, slt, shs, slb, sga, sex, spr, ssb⟩ := w
  have hz := ssb.s0
  refine q_Spec_mono (e_am_successfulCount (d := d) sam sst hd) (fun o1 h1 hQ => ?_)
  obtain ⟨e1, rfl⟩ := hQ
  exact ⟨e1, ⟨⟨s2, ca, cj, co, won, lost, pf, cv, sc, pc, pp, po, vb, oa, ob, sam, sst, ssv, slt, shs, slb, sga, sex, spr, ssb⟩, q_zone.rfl'⟩⟩
set_option maxRecDepth 100000 in
set_option maxHeartbeats 4000000 in
theorem c_attackerCount {g : q_G} {h : q_H} {d : Nat} {hs : Bool} {se : Int32} {sf : Int32} {s : ZS} {s1 : ZS} {s2 : ZS} {nx : Nat} {kp : Nat} {rw : Nat → ZS} {ca : Int32} {cj : Int32} {co : Nat → Int32} {won : Nat → Int32} {lost : Nat → Int32} {pf : Nat → Int32} {cv : Nat → Int32} {sc : Nat} {pc : Nat} {pp : Nat} {po : Int32} {vb : Nat → Int32} {oa : Nat → Int32} {ob : Nat → Int32} {ic : Nat} {fi : Nat → Int32} {lc : Nat} {fl : Nat → Int32} (w : z_Cx h hs se sf s s1 s2 nx kp rw ca cj co won lost pf cv sc pc pp po vb oa ob ic fi lc fl) (xid : Int32)  (hd : 8 ≤ d) : q_Spec g mX10_attackerCount d 1 6 [.ref (100), .int (xid)] h (q_chg (q_oI ((x_am_attackerCount s.1 s.2.1 s.2.2.2.2.2.1 xid))) (fun h1 => z_C h1 hs se sf s s1 nx kp rw ic fi lc fl ∧ q_zone h h1 100 115)) := by
  obtain ⟨sam, sst, ssv, slt, shs, slb, sga, sex, spr, ssb⟩ := w
  have hz := ssb.s0
  refine q_Spec_mono (e_am_attackerCount (d := d) sam sst xid hd) (fun o1 h1 hQ => ?_)
  revert hQ
  rcases x_am_attackerCount s.1 s.2.1 s.2.2.2.2.2.1 xid with v | E
  · rintro ⟨e1, rfl⟩
    exact ⟨e1, ⟨⟨s2, ca, cj, co, won, lost, pf, cv, sc, pc, pp, po, vb, oa, ob, sam, sst, ssv, slt, shs, slb, sga, sex, spr, ssb⟩, q_zone.rfl'⟩⟩
  · rintro ⟨e1, rfl⟩
    exact ⟨e1, ⟨s2, ca, cj, co, won, lost, pf, cv, sc, pc, pp, po, vb, oa, ob, sam.keepI (Nat.le_succ _) (fun _ _ _ => rfl), sst.keepI (Nat.le_succ _) (fun _ _ _ => rfl), ssv.keepI (Nat.le_succ _) (fun _ _ _ => rfl), slt.keepI (Nat.le_succ _) (fun _ _ _ => rfl), shs.keepI (Nat.le_succ _) (fun _ _ _ => rfl), slb.keepI (Nat.le_succ _) (fun _ _ _ => rfl), sga.keepI (Nat.le_succ _) (fun _ _ _ => rfl), sex.keepI (Nat.le_succ _) (fun _ _ _ => rfl), spr.keepI (Nat.le_succ _) (fun _ _ _ => rfl), ssb.keep (q_same.skip (a := 215) (k := 0)) (by omega)⟩, q_zone.skip hz⟩
set_option maxRecDepth 100000 in
set_option maxHeartbeats 4000000 in
theorem c_attackerAt {g : q_G} {h : q_H} {d : Nat} {hs : Bool} {se : Int32} {sf : Int32} {s : ZS} {s1 : ZS} {s2 : ZS} {nx : Nat} {kp : Nat} {rw : Nat → ZS} {ca : Int32} {cj : Int32} {co : Nat → Int32} {won : Nat → Int32} {lost : Nat → Int32} {pf : Nat → Int32} {cv : Nat → Int32} {sc : Nat} {pc : Nat} {pp : Nat} {po : Int32} {vb : Nat → Int32} {oa : Nat → Int32} {ob : Nat → Int32} {ic : Nat} {fi : Nat → Int32} {lc : Nat} {fl : Nat → Int32} (w : z_Cx h hs se sf s s1 s2 nx kp rw ca cj co won lost pf cv sc pc pp po vb oa ob ic fi lc fl) (xid : Int32) (xp : Int32)  (hd : 8 ≤ d) : q_Spec g mX10_attackerAt d 2 12 [.ref (100), .int (xid), .int (xp)] h (q_chg (q_oI ((x_am_attackerAt s.1 s.2.1 s.2.2.2.2.2.1 xid xp))) (fun h1 => z_C h1 hs se sf s s1 nx kp rw ic fi lc fl ∧ q_zone h h1 100 115)) := by
  obtain ⟨sam, sst, ssv, slt, shs, slb, sga, sex, spr, ssb⟩ := w
  have hz := ssb.s0
  refine q_Spec_mono (e_am_attackerAt (d := d) sam sst xid xp hd) (fun o1 h1 hQ => ?_)
  revert hQ
  rcases x_am_attackerAt s.1 s.2.1 s.2.2.2.2.2.1 xid xp with v | E
  · rintro ⟨e1, rfl⟩
    exact ⟨e1, ⟨⟨s2, ca, cj, co, won, lost, pf, cv, sc, pc, pp, po, vb, oa, ob, sam, sst, ssv, slt, shs, slb, sga, sex, spr, ssb⟩, q_zone.rfl'⟩⟩
  · rintro ⟨e1, rfl⟩
    exact ⟨e1, ⟨s2, ca, cj, co, won, lost, pf, cv, sc, pc, pp, po, vb, oa, ob, sam.keepI (Nat.le_succ _) (fun _ _ _ => rfl), sst.keepI (Nat.le_succ _) (fun _ _ _ => rfl), ssv.keepI (Nat.le_succ _) (fun _ _ _ => rfl), slt.keepI (Nat.le_succ _) (fun _ _ _ => rfl), shs.keepI (Nat.le_succ _) (fun _ _ _ => rfl), slb.keepI (Nat.le_succ _) (fun _ _ _ => rfl), sga.keepI (Nat.le_succ _) (fun _ _ _ => rfl), sex.keepI (Nat.le_succ _) (fun _ _ _ => rfl), spr.keepI (Nat.le_succ _) (fun _ _ _ => rfl), ssb.keep (q_same.skip (a := 215) (k := 0)) (by omega)⟩, q_zone.skip hz⟩
set_option maxRecDepth 100000 in
set_option maxHeartbeats 4000000 in
theorem c_status {g : q_G} {h : q_H} {d : Nat} {hs : Bool} {se : Int32} {sf : Int32} {s : ZS} {s1 : ZS} {s2 : ZS} {nx : Nat} {kp : Nat} {rw : Nat → ZS} {ca : Int32} {cj : Int32} {co : Nat → Int32} {won : Nat → Int32} {lost : Nat → Int32} {pf : Nat → Int32} {cv : Nat → Int32} {sc : Nat} {pc : Nat} {pp : Nat} {po : Int32} {vb : Nat → Int32} {oa : Nat → Int32} {ob : Nat → Int32} {ic : Nat} {fi : Nat → Int32} {lc : Nat} {fl : Nat → Int32} (w : z_Cx h hs se sf s s1 s2 nx kp rw ca cj co won lost pf cv sc pc pp po vb oa ob ic fi lc fl) (xid : Int32)  (hd : 8 ≤ d) : q_Spec g mX10_status d 1 6 [.ref (100), .int (xid)] h (q_chg (q_oI ((x_am_status s.1 s.2.1 s.2.2.2.2.2.1 ca cj co xid).1)) (fun h1 => z_C h1 hs se sf s s1 nx kp rw ic fi lc fl ∧ q_zone h h1 100 115)) := by
  obtain ⟨sam, sst, ssv, slt, shs, slb, sga, sex, spr, ssb⟩ := w
  have hz := ssb.s0
  refine q_Spec_mono (e_am_status (d := d) sam sst slb xid hd) (fun o1 h1 hQ => ?_)
  obtain ⟨e1, n_am, n_st, n_lb, q9⟩ := hQ
  have n_st2 : z_S2t h1 101 s := n_st
  exact ⟨e1, ⟨_, _, _, _, _, _, _, _, _, _, _, _, _, _, _, n_am, n_st2, ssv.keep q9 (by omega), slt.keep q9 (by omega), shs.keep q9 (by omega), n_lb, sga.keep q9 (by omega), sex.keep q9 (by omega), spr.keep q9 (by omega), ssb.keep q9 (by omega)⟩, (q9.zone hz).wide (by omega) (by omega)⟩
set_option maxRecDepth 100000 in
set_option maxHeartbeats 4000000 in
theorem c_roundOf {g : q_G} {h : q_H} {d : Nat} {hs : Bool} {se : Int32} {sf : Int32} {s : ZS} {s1 : ZS} {s2 : ZS} {nx : Nat} {kp : Nat} {rw : Nat → ZS} {ca : Int32} {cj : Int32} {co : Nat → Int32} {won : Nat → Int32} {lost : Nat → Int32} {pf : Nat → Int32} {cv : Nat → Int32} {sc : Nat} {pc : Nat} {pp : Nat} {po : Int32} {vb : Nat → Int32} {oa : Nat → Int32} {ob : Nat → Int32} {ic : Nat} {fi : Nat → Int32} {lc : Nat} {fl : Nat → Int32} (w : z_Cx h hs se sf s s1 s2 nx kp rw ca cj co won lost pf cv sc pc pp po vb oa ob ic fi lc fl) (xid : Int32)  (hd : 8 ≤ d) : q_Spec g mX10_roundOf d 2 12 [.ref (100), .int (xid)] h (q_chg (q_oI ((x_am_roundOf s.1 s.2.1 s.2.2.2.2.2.1 ca cj co xid).1)) (fun h1 => z_C h1 hs se sf s s1 nx kp rw ic fi lc fl ∧ q_zone h h1 100 115)) := by
  obtain ⟨sam, sst, ssv, slt, shs, slb, sga, sex, spr, ssb⟩ := w
  have hz := ssb.s0
  refine q_Spec_mono (e_am_roundOf (d := d) sam sst slb xid hd) (fun o1 h1 hQ => ?_)
  obtain ⟨e1, n_am, n_st, n_lb, q9⟩ := hQ
  have n_st2 : z_S2t h1 101 s := n_st
  exact ⟨e1, ⟨_, _, _, _, _, _, _, _, _, _, _, _, _, _, _, n_am, n_st2, ssv.keep q9 (by omega), slt.keep q9 (by omega), shs.keep q9 (by omega), n_lb, sga.keep q9 (by omega), sex.keep q9 (by omega), spr.keep q9 (by omega), ssb.keep q9 (by omega)⟩, (q9.zone hz).wide (by omega) (by omega)⟩
set_option maxRecDepth 100000 in
set_option maxHeartbeats 4000000 in
theorem c_isAcceptedByGame {g : q_G} {h : q_H} {d : Nat} {hs : Bool} {se : Int32} {sf : Int32} {s : ZS} {s1 : ZS} {s2 : ZS} {nx : Nat} {kp : Nat} {rw : Nat → ZS} {ca : Int32} {cj : Int32} {co : Nat → Int32} {won : Nat → Int32} {lost : Nat → Int32} {pf : Nat → Int32} {cv : Nat → Int32} {sc : Nat} {pc : Nat} {pp : Nat} {po : Int32} {vb : Nat → Int32} {oa : Nat → Int32} {ob : Nat → Int32} {ic : Nat} {fi : Nat → Int32} {lc : Nat} {fl : Nat → Int32} (w : z_Cx h hs se sf s s1 s2 nx kp rw ca cj co won lost pf cv sc pc pp po vb oa ob ic fi lc fl) (xid : Int32)  (hd : 20 ≤ d) : q_Spec g mX10_isAcceptedByGame d 1 6 [.ref (100), .int (xid)] h (q_chg (q_oB ((x_am_isAcceptedByGame s.1 s.2.1 s.2.2.2.2.2.1 won lost xid).1)) (fun h1 => z_C h1 hs se sf s s1 nx kp rw ic fi lc fl ∧ q_zone h h1 100 115)) := by
  obtain ⟨sam, sst, ssv, slt, shs, slb, sga, sex, spr, ssb⟩ := w
  have hz := ssb.s0
  refine q_Spec_mono (e_am_isAcceptedByGame (d := d) sam sst sga xid hd) (fun o1 h1 hQ => ?_)
  obtain ⟨e1, n_am, n_st, n_ga, q9⟩ := hQ
  have n_st2 : z_S2t h1 101 s := n_st
  exact ⟨e1, ⟨_, _, _, _, _, _, _, _, _, _, _, _, _, _, _, n_am, n_st2, ssv.keep q9 (by omega), slt.keep q9 (by omega), shs.keep q9 (by omega), slb.keep q9 (by omega), n_ga, sex.keep q9 (by omega), spr.keep q9 (by omega), ssb.keep q9 (by omega)⟩, (q9.zone hz).wide (by omega) (by omega)⟩
set_option maxRecDepth 100000 in
set_option maxHeartbeats 4000000 in
theorem c_canOpponentWin {g : q_G} {h : q_H} {d : Nat} {hs : Bool} {se : Int32} {sf : Int32} {s : ZS} {s1 : ZS} {s2 : ZS} {nx : Nat} {kp : Nat} {rw : Nat → ZS} {ca : Int32} {cj : Int32} {co : Nat → Int32} {won : Nat → Int32} {lost : Nat → Int32} {pf : Nat → Int32} {cv : Nat → Int32} {sc : Nat} {pc : Nat} {pp : Nat} {po : Int32} {vb : Nat → Int32} {oa : Nat → Int32} {ob : Nat → Int32} {ic : Nat} {fi : Nat → Int32} {lc : Nat} {fl : Nat → Int32} (w : z_Cx h hs se sf s s1 s2 nx kp rw ca cj co won lost pf cv sc pc pp po vb oa ob ic fi lc fl) (xid : Int32)  (hd : 21 ≤ d) : q_Spec g mX10_canOpponentWin d 1 6 [.ref (100), .int (xid)] h (q_chg (q_oB ((x_am_canOpponentWin s.1 s.2.1 s.2.2.2.2.2.1 won lost xid).1)) (fun h1 => z_C h1 hs se sf s s1 nx kp rw ic fi lc fl ∧ q_zone h h1 100 115)) := by
  obtain ⟨sam, sst, ssv, slt, shs, slb, sga, sex, spr, ssb⟩ := w
  have hz := ssb.s0
  refine q_Spec_mono (e_am_canOpponentWin (d := d) sam sst sga xid hd) (fun o1 h1 hQ => ?_)
  obtain ⟨e1, n_am, n_st, n_ga, q9⟩ := hQ
  have n_st2 : z_S2t h1 101 s := n_st
  exact ⟨e1, ⟨_, _, _, _, _, _, _, _, _, _, _, _, _, _, _, n_am, n_st2, ssv.keep q9 (by omega), slt.keep q9 (by omega), shs.keep q9 (by omega), slb.keep q9 (by omega), n_ga, sex.keep q9 (by omega), spr.keep q9 (by omega), ssb.keep q9 (by omega)⟩, (q9.zone hz).wide (by omega) (by omega)⟩
set_option maxRecDepth 100000 in
set_option maxHeartbeats 4000000 in
theorem c_acceptedCount {g : q_G} {h : q_H} {d : Nat} {hs : Bool} {se : Int32} {sf : Int32} {s : ZS} {s1 : ZS} {s2 : ZS} {nx : Nat} {kp : Nat} {rw : Nat → ZS} {ca : Int32} {cj : Int32} {co : Nat → Int32} {won : Nat → Int32} {lost : Nat → Int32} {pf : Nat → Int32} {cv : Nat → Int32} {sc : Nat} {pc : Nat} {pp : Nat} {po : Int32} {vb : Nat → Int32} {oa : Nat → Int32} {ob : Nat → Int32} {ic : Nat} {fi : Nat → Int32} {lc : Nat} {fl : Nat → Int32} (w : z_Cx h hs se sf s s1 s2 nx kp rw ca cj co won lost pf cv sc pc pp po vb oa ob ic fi lc fl)   (hd : 4 ≤ d) : q_Spec g mX10_acceptedCount d 0 0 [.ref (100)] h (q_chg (.inl (some (.int ((x_am_acceptedCount s.1 s.2.2.2.2.2.1 co).1)))) (fun h1 => z_C h1 hs se sf s s1 nx kp rw ic fi lc fl ∧ q_zone h h1 100 115)) := by
  obtain ⟨sam, sst, ssv, slt, shs, slb, sga, sex, spr, ssb⟩ := w
  have hz := ssb.s0
  refine q_Spec_mono (e_am_acceptedCount (d := d) sam sst slb hd) (fun o1 h1 hQ => ?_)
  obtain ⟨e1, n_am, n_st, n_lb, q9⟩ := hQ
  have n_st2 : z_S2t h1 101 s := n_st
  exact ⟨e1, ⟨_, _, _, _, _, _, _, _, _, _, _, _, _, _, _, n_am, n_st2, ssv.keep q9 (by omega), slt.keep q9 (by omega), shs.keep q9 (by omega), n_lb, sga.keep q9 (by omega), sex.keep q9 (by omega), spr.keep q9 (by omega), ssb.keep q9 (by omega)⟩, (q9.zone hz).wide (by omega) (by omega)⟩
set_option maxRecDepth 100000 in
set_option maxHeartbeats 4000000 in
theorem c_undecidedCount {g : q_G} {h : q_H} {d : Nat} {hs : Bool} {se : Int32} {sf : Int32} {s : ZS} {s1 : ZS} {s2 : ZS} {nx : Nat} {kp : Nat} {rw : Nat → ZS} {ca : Int32} {cj : Int32} {co : Nat → Int32} {won : Nat → Int32} {lost : Nat → Int32} {pf : Nat → Int32} {cv : Nat → Int32} {sc : Nat} {pc : Nat} {pp : Nat} {po : Int32} {vb : Nat → Int32} {oa : Nat → Int32} {ob : Nat → Int32} {ic : Nat} {fi : Nat → Int32} {lc : Nat} {fl : Nat → Int32} (w : z_Cx h hs se sf s s1 s2 nx kp rw ca cj co won lost pf cv sc pc pp po vb oa ob ic fi lc fl)   (hd : 4 ≤ d) : q_Spec g mX10_undecidedCount d 0 0 [.ref (100)] h (q_chg (.inl (some (.int ((x_am_undecidedCount s.1 s.2.2.2.2.2.1 co).1)))) (fun h1 => z_C h1 hs se sf s s1 nx kp rw ic fi lc fl ∧ q_zone h h1 100 115)) := by
  obtain ⟨sam, sst, ssv, slt, shs, slb, sga, sex, spr, ssb⟩ := w
  have hz := ssb.s0
  refine q_Spec_mono (e_am_undecidedCount (d := d) sam sst slb hd) (fun o1 h1 hQ => ?_)
  obtain ⟨e1, n_am, n_st, n_lb, q9⟩ := hQ
  have n_st2 : z_S2t h1 101 s := n_st
  exact ⟨e1, ⟨_, _, _, _, _, _, _, _, _, _, _, _, _, _, _, n_am, n_st2, ssv.keep q9 (by omega), slt.keep q9 (by omega), shs.keep q9 (by omega), n_lb, sga.keep q9 (by omega), sex.keep q9 (by omega), spr.keep q9 (by omega), ssb.keep q9 (by omega)⟩, (q9.zone hz).wide (by omega) (by omega)⟩
set_option maxRecDepth 100000 in
set_option maxHeartbeats 4000000 in
theorem c_stableCount {g : q_G} {h : q_H} {d : Nat} {hs : Bool} {se : Int32} {sf : Int32} {s : ZS} {s1 : ZS} {s2 : ZS} {nx : Nat} {kp : Nat} {rw : Nat → ZS} {ca : Int32} {cj : Int32} {co : Nat → Int32} {won : Nat → Int32} {lost : Nat → Int32} {pf : Nat → Int32} {cv : Nat → Int32} {sc : Nat} {pc : Nat} {pp : Nat} {po : Int32} {vb : Nat → Int32} {oa : Nat → Int32} {ob : Nat → Int32} {ic : Nat} {fi : Nat → Int32} {lc : Nat} {fl : Nat → Int32} (w : z_Cx h hs se sf s s1 s2 nx kp rw ca cj co won lost pf cv sc pc pp po vb oa ob ic fi lc fl)   (hd : 4 ≤ d) : q_Spec g mX10_stableCount d 0 0 [.ref (100)] h (q_chg (.inl (some (.int ((x_am_stableCount s.1 s.2.2.2.2.2.1))))) (fun h1 => z_C h1 hs se sf s s1 nx kp rw ic fi lc fl ∧ q_zone h h1 100 115)) := by
  obtain ⟨sam, sst, ssv, slt, shs, slb, sga, sex, spr, ssb⟩ := w
  have hz := ssb.s0
  refine q_Spec_mono (e_am_stableCount (d := d) sam sst sex hd) (fun o1 h1 hQ => ?_)
  obtain ⟨e1, rfl⟩ := hQ
  exact ⟨e1, ⟨⟨s2, ca, cj, co, won, lost, pf, cv, sc, pc, pp, po, vb, oa, ob, sam, sst, ssv, slt, shs, slb, sga, sex, spr, ssb⟩, q_zone.rfl'⟩⟩
set_option maxRecDepth 100000 in
set_option maxHeartbeats 4000000 in
theorem c_stableCountByLabels {g : q_G} {h : q_H} {d : Nat} {hs : Bool} {se : Int32} {sf : Int32} {s : ZS} {s1 : ZS} {s2 : ZS} {nx : Nat} {kp : Nat} {rw : Nat → ZS} {ca : Int32} {cj : Int32} {co : Nat → Int32} {won : Nat → Int32} {lost : Nat → Int32} {pf : Nat → Int32} {cv : Nat → Int32} {sc : Nat} {pc : Nat} {pp : Nat} {po : Int32} {vb : Nat → Int32} {oa : Nat → Int32} {ob : Nat → Int32} {ic : Nat} {fi : Nat → Int32} {lc : Nat} {fl : Nat → Int32} (w : z_Cx h hs se sf s s1 s2 nx kp rw ca cj co won lost pf cv sc pc pp po vb oa ob ic fi lc fl)   (hd : 23 ≤ d) : q_Spec g mX10_stableCountByLabels d 0 0 [.ref (100)] h (q_chg (.inl (some (.int ((x_am_stableCountByLabels s.1 s.2.2.2.2.2.1))))) (fun h1 => z_C h1 hs se sf s s1 nx kp rw ic fi lc fl ∧ q_zone h h1 100 115)) := by
  obtain ⟨sam, sst, ssv, slt, shs, slb, sga, sex, spr, ssb⟩ := w
  have hz := ssb.s0
  refine q_Spec_mono (e_am_stableCountByLabels (d := d) sam sst sex hd) (fun o1 h1 hQ => ?_)
  obtain ⟨e1, rfl⟩ := hQ
  exact ⟨e1, ⟨⟨s2, ca, cj, co, won, lost, pf, cv, sc, pc, pp, po, vb, oa, ob, sam, sst, ssv, slt, shs, slb, sga, sex, spr, ssb⟩, q_zone.rfl'⟩⟩
set_option maxRecDepth 100000 in
set_option maxHeartbeats 4000000 in
theorem c_preferredCount {g : q_G} {h : q_H} {d : Nat} {hs : Bool} {se : Int32} {sf : Int32} {s : ZS} {s1 : ZS} {s2 : ZS} {nx : Nat} {kp : Nat} {rw : Nat → ZS} {ca : Int32} {cj : Int32} {co : Nat → Int32} {won : Nat → Int32} {lost : Nat → Int32} {pf : Nat → Int32} {cv : Nat → Int32} {sc : Nat} {pc : Nat} {pp : Nat} {po : Int32} {vb : Nat → Int32} {oa : Nat → Int32} {ob : Nat → Int32} {ic : Nat} {fi : Nat → Int32} {lc : Nat} {fl : Nat → Int32} (w : z_Cx h hs se sf s s1 s2 nx kp rw ca cj co won lost pf cv sc pc pp po vb oa ob ic fi lc fl)   (hd : 4 ≤ d) : q_Spec g mX10_preferredCount d 0 0 [.ref (100)] h (q_chg (.inl (some (.int ((x_am_preferredCount s.1 s.2.2.2.2.2.1 pf cv).1)))) (fun h1 => z_C h1 hs se sf s s1 nx kp rw ic fi lc fl ∧ q_zone h h1 100 115)) := by
  obtain ⟨sam, sst, ssv, slt, shs, slb, sga, sex, spr, ssb⟩ := w
  have hz := ssb.s0
  refine q_Spec_mono (e_am_preferredCount (d := d) sam sst sex hd) (fun o1 h1 hQ => ?_)
  obtain ⟨e1, n_am, n_st, n_ex, q9⟩ := hQ
  have n_st2 : z_S2t h1 101 s := n_st
  exact ⟨e1, ⟨_, _, _, _, _, _, _, _, _, _, _, _, _, _, _, n_am, n_st2, ssv.keep q9 (by omega), slt.keep q9 (by omega), shs.keep q9 (by omega), slb.keep q9 (by omega), sga.keep q9 (by omega), n_ex, spr.keep q9 (by omega), ssb.keep q9 (by omega)⟩, (q9.zone hz).wide (by omega) (by omega)⟩
set_option maxRecDepth 100000 in
set_option maxHeartbeats 4000000 in
theorem c_greatestAdmissible {g : q_G} {h : q_H} {d : Nat} {hs : Bool} {se : Int32} {sf : Int32} {s : ZS} {s1 : ZS} {s2 : ZS} {nx : Nat} {kp : Nat} {rw : Nat → ZS} {ca : Int32} {cj : Int32} {co : Nat → Int32} {won : Nat → Int32} {lost : Nat → Int32} {pf : Nat → Int32} {cv : Nat → Int32} {sc : Nat} {pc : Nat} {pp : Nat} {po : Int32} {vb : Nat → Int32} {oa : Nat → Int32} {ob : Nat → Int32} {ic : Nat} {fi : Nat → Int32} {lc : Nat} {fl : Nat → Int32} (w : z_Cx h hs se sf s s1 s2 nx kp rw ca cj co won lost pf cv sc pc pp po vb oa ob ic fi lc fl)   (hd : 4 ≤ d) : q_Spec g mX10_greatestAdmissible d 0 0 [.ref (100)] h (q_chg (.inl (some (.int ((x_am_greatestAdmissible s.1 s.2.2.2.2.2.1))))) (fun h1 => z_C h1 hs se sf s s1 nx kp rw ic fi lc fl ∧ q_zone h h1 100 115)) := by
  obtain ⟨sam, sst, ssv, slt, shs, slb, sga, sex, spr, ssb⟩ := w
  have hz := ssb.s0
  refine q_Spec_mono (e_am_greatestAdmissible (d := d) sam sst sex hd) (fun o1 h1 hQ => ?_)
  obtain ⟨e1, rfl⟩ := hQ
  exact ⟨e1, ⟨⟨s2, ca, cj, co, won, lost, pf, cv, sc, pc, pp, po, vb, oa, ob, sam, sst, ssv, slt, shs, slb, sga, sex, spr, ssb⟩, q_zone.rfl'⟩⟩
set_option maxRecDepth 100000 in
set_option maxHeartbeats 4000000 in
theorem c_isCredible {g : q_G} {h : q_H} {d : Nat} {hs : Bool} {se : Int32} {sf : Int32} {s : ZS} {s1 : ZS} {s2 : ZS} {nx : Nat} {kp : Nat} {rw : Nat → ZS} {ca : Int32} {cj : Int32} {co : Nat → Int32} {won : Nat → Int32} {lost : Nat → Int32} {pf : Nat → Int32} {cv : Nat → Int32} {sc : Nat} {pc : Nat} {pp : Nat} {po : Int32} {vb : Nat → Int32} {oa : Nat → Int32} {ob : Nat → Int32} {ic : Nat} {fi : Nat → Int32} {lc : Nat} {fl : Nat → Int32} (w : z_Cx h hs se sf s s1 s2 nx kp rw ca cj co won lost pf cv sc pc pp po vb oa ob ic fi lc fl) (xid : Int32)  (hd : 9 ≤ d) : q_Spec g mX10_isCredible d 2 12 [.ref (100), .int (xid)] h (q_chg (q_oB ((x_am_isCredible s.1 s.2.1 s.2.2.2.2.2.1 pf cv sc xid).1)) (fun h1 => z_C h1 hs se sf s s1 nx kp rw ic fi lc fl ∧ q_zone h h1 100 115)) := by
  obtain ⟨sam, sst, ssv, slt, shs, slb, sga, sex, spr, ssb⟩ := w
  have hz := ssb.s0
  refine q_Spec_mono (e_am_isCredible (d := d) sam sst sex xid hd) (fun o1 h1 hQ => ?_)
  obtain ⟨e1, n_am, n_st, n_ex, q9⟩ := hQ
  have n_st2 : z_S2t h1 101 s := n_st
  exact ⟨e1, ⟨_, _, _, _, _, _, _, _, _, _, _, _, _, _, _, n_am, n_st2, ssv.keep q9 (by omega), slt.keep q9 (by omega), shs.keep q9 (by omega), slb.keep q9 (by omega), sga.keep q9 (by omega), n_ex, spr.keep q9 (by omega), ssb.keep q9 (by omega)⟩, (q9.zone hz).wide (by omega) (by omega)⟩
set_option maxRecDepth 100000 in
set_option maxHeartbeats 4000000 in
theorem c_isCertain {g : q_G} {h : q_H} {d : Nat} {hs : Bool} {se : Int32} {sf : Int32} {s : ZS} {s1 : ZS} {s2 : ZS} {nx : Nat} {kp : Nat} {rw : Nat → ZS} {ca : Int32} {cj : Int32} {co : Nat → Int32} {won : Nat → Int32} {lost : Nat → Int32} {pf : Nat → Int32} {cv : Nat → Int32} {sc : Nat} {pc : Nat} {pp : Nat} {po : Int32} {vb : Nat → Int32} {oa : Nat → Int32} {ob : Nat → Int32} {ic : Nat} {fi : Nat → Int32} {lc : Nat} {fl : Nat → Int32} (w : z_Cx h hs se sf s s1 s2 nx kp rw ca cj co won lost pf cv sc pc pp po vb oa ob ic fi lc fl) (xid : Int32)  (hd : 8 ≤ d) : q_Spec g mX10_isCertain d 1 6 [.ref (100), .int (xid)] h (q_chg (q_oB ((x_am_isCertain s.1 s.2.1 s.2.2.2.2.2.1 pf cv sc xid).1)) (fun h1 => z_C h1 hs se sf s s1 nx kp rw ic fi lc fl ∧ q_zone h h1 100 115)) := by
  obtain ⟨sam, sst, ssv, slt, shs, slb, sga, sex, spr, ssb⟩ := w
  have hz := ssb.s0
  refine q_Spec_mono (e_am_isCertain (d := d) sam sst sex xid hd) (fun o1 h1 hQ => ?_)
  obtain ⟨e1, n_am, n_st, n_ex, q9⟩ := hQ
  have n_st2 : z_S2t h1 101 s := n_st
  exact ⟨e1, ⟨_, _, _, _, _, _, _, _, _, _, _, _, _, _, _, n_am, n_st2, ssv.keep q9 (by omega), slt.keep q9 (by omega), shs.keep q9 (by omega), slb.keep q9 (by omega), sga.keep q9 (by omega), n_ex, spr.keep q9 (by omega), ssb.keep q9 (by omega)⟩, (q9.zone hz).wide (by omega) (by omega)⟩
set_option maxRecDepth 100000 in
set_option maxHeartbeats 4000000 in
theorem c_canStandTogether {g : q_G} {h : q_H} {d : Nat} {hs : Bool} {se : Int32} {sf : Int32} {s : ZS} {s1 : ZS} {s2 : ZS} {nx : Nat} {kp : Nat} {rw : Nat → ZS} {ca : Int32} {cj : Int32} {co : Nat → Int32} {won : Nat → Int32} {lost : Nat → Int32} {pf : Nat → Int32} {cv : Nat → Int32} {sc : Nat} {pc : Nat} {pp : Nat} {po : Int32} {vb : Nat → Int32} {oa : Nat → Int32} {ob : Nat → Int32} {ic : Nat} {fi : Nat → Int32} {lc : Nat} {fl : Nat → Int32} (w : z_Cx h hs se sf s s1 s2 nx kp rw ca cj co won lost pf cv sc pc pp po vb oa ob ic fi lc fl) (xid : Int32) (xo : Int32)  (hd : 8 ≤ d) : q_Spec g mX10_canStandTogether d 2 12 [.ref (100), .int (xid), .int (xo)] h (q_chg (q_oB ((x_am_canStandTogether s.1 s.2.1 s.2.2.2.2.2.1 pf cv sc xid xo).1)) (fun h1 => z_C h1 hs se sf s s1 nx kp rw ic fi lc fl ∧ q_zone h h1 100 115)) := by
  obtain ⟨sam, sst, ssv, slt, shs, slb, sga, sex, spr, ssb⟩ := w
  have hz := ssb.s0
  refine q_Spec_mono (e_am_canStandTogether (d := d) sam sst sex xid xo hd) (fun o1 h1 hQ => ?_)
  obtain ⟨e1, n_am, n_st, n_ex, q9⟩ := hQ
  have n_st2 : z_S2t h1 101 s := n_st
  exact ⟨e1, ⟨_, _, _, _, _, _, _, _, _, _, _, _, _, _, _, n_am, n_st2, ssv.keep q9 (by omega), slt.keep q9 (by omega), shs.keep q9 (by omega), slb.keep q9 (by omega), sga.keep q9 (by omega), n_ex, spr.keep q9 (by omega), ssb.keep q9 (by omega)⟩, (q9.zone hz).wide (by omega) (by omega)⟩
set_option maxRecDepth 100000 in
set_option maxHeartbeats 4000000 in
theorem c_hasCycle {g : q_G} {h : q_H} {d : Nat} {hs : Bool} {se : Int32} {sf : Int32} {s : ZS} {s1 : ZS} {s2 : ZS} {nx : Nat} {kp : Nat} {rw : Nat → ZS} {ca : Int32} {cj : Int32} {co : Nat → Int32} {won : Nat → Int32} {lost : Nat → Int32} {pf : Nat → Int32} {cv : Nat → Int32} {sc : Nat} {pc : Nat} {pp : Nat} {po : Int32} {vb : Nat → Int32} {oa : Nat → Int32} {ob : Nat → Int32} {ic : Nat} {fi : Nat → Int32} {lc : Nat} {fl : Nat → Int32} (w : z_Cx h hs se sf s s1 s2 nx kp rw ca cj co won lost pf cv sc pc pp po vb oa ob ic fi lc fl)   (hd : 2 ≤ d) : q_Spec g mX10_hasCycle d 0 0 [.ref (100)] h (q_chg (.inl (some (.int (z_b ((x_am_hasCycle s.1 s.2.2.2.2.2.1)))))) (fun h1 => z_C h1 hs se sf s s1 nx kp rw ic fi lc fl ∧ q_zone h h1 100 115)) := by
  obtain ⟨sam, sst, ssv, slt, shs, slb, sga, sex, spr, ssb⟩ := w
  have hz := ssb.s0
  refine q_Spec_mono (e_am_hasCycle (d := d) sam sst hd) (fun o1 h1 hQ => ?_)
  obtain ⟨e1, rfl⟩ := hQ
  exact ⟨e1, ⟨⟨s2, ca, cj, co, won, lost, pf, cv, sc, pc, pp, po, vb, oa, ob, sam, sst, ssv, slt, shs, slb, sga, sex, spr, ssb⟩, q_zone.rfl'⟩⟩
set_option maxRecDepth 100000 in
set_option maxHeartbeats 4000000 in
theorem c_hasCycleBySearch {g : q_G} {h : q_H} {d : Nat} {hs : Bool} {se : Int32} {sf : Int32} {s : ZS} {s1 : ZS} {s2 : ZS} {nx : Nat} {kp : Nat} {rw : Nat → ZS} {ca : Int32} {cj : Int32} {co : Nat → Int32} {won : Nat → Int32} {lost : Nat → Int32} {pf : Nat → Int32} {cv : Nat → Int32} {sc : Nat} {pc : Nat} {pp : Nat} {po : Int32} {vb : Nat → Int32} {oa : Nat → Int32} {ob : Nat → Int32} {ic : Nat} {fi : Nat → Int32} {lc : Nat} {fl : Nat → Int32} (w : z_Cx h hs se sf s s1 s2 nx kp rw ca cj co won lost pf cv sc pc pp po vb oa ob ic fi lc fl)   (hd : 13 ≤ d) : q_Spec g mX10_hasCycleBySearch d 0 0 [.ref (100)] h (q_chg (.inl (some (.int (z_b ((x_am_hasCycleBySearch s.1 s.2.2.2.2.2.1)))))) (fun h1 => z_C h1 hs se sf s s1 nx kp rw ic fi lc fl ∧ q_zone h h1 100 115)) := by
  obtain ⟨sam, sst, ssv, slt, shs, slb, sga, sex, spr, ssb⟩ := w
  have hz := ssb.s0
  refine q_Spec_mono (e_am_hasCycleBySearch (d := d) sam sst hd) (fun o1 h1 hQ => ?_)
  obtain ⟨e1, rfl⟩ := hQ
  exact ⟨e1, ⟨⟨s2, ca, cj, co, won, lost, pf, cv, sc, pc, pp, po, vb, oa, ob, sam, sst, ssv, slt, shs, slb, sga, sex, spr, ssb⟩, q_zone.rfl'⟩⟩
set_option maxRecDepth 100000 in
set_option maxHeartbeats 4000000 in
theorem c_statusAfter {g : q_G} {h : q_H} {d : Nat} {hs : Bool} {se : Int32} {sf : Int32} {s : ZS} {s1 : ZS} {s2 : ZS} {nx : Nat} {kp : Nat} {rw : Nat → ZS} {ca : Int32} {cj : Int32} {co : Nat → Int32} {won : Nat → Int32} {lost : Nat → Int32} {pf : Nat → Int32} {cv : Nat → Int32} {sc : Nat} {pc : Nat} {pp : Nat} {po : Int32} {vb : Nat → Int32} {oa : Nat → Int32} {ob : Nat → Int32} {ic : Nat} {fi : Nat → Int32} {lc : Nat} {fl : Nat → Int32} (w : z_Cx h hs se sf s s1 s2 nx kp rw ca cj co won lost pf cv sc pc pp po vb oa ob ic fi lc fl) (xid : Int32) (xn : Int32)  (hd : 8 ≤ d) : q_Spec g mX10_statusAfter d 2 12 [.ref (100), .int (xid), .int (xn)] h (q_chg (q_oI ((x_am_statusAfter s.1 s.2.1 s.2.2.1 s.2.2.2.1 s.2.2.2.2.1 s.2.2.2.2.2.1 s.2.2.2.2.2.2.1 s.2.2.2.2.2.2.2.1 s.2.2.2.2.2.2.2.2.1 s.2.2.2.2.2.2.2.2.2.1 s.2.2.2.2.2.2.2.2.2.2.1 s.2.2.2.2.2.2.2.2.2.2.2.1 s.2.2.2.2.2.2.2.2.2.2.2.2 s2.1 s2.2.1 s2.2.2.1 s2.2.2.2.1 s2.2.2.2.2.1 s2.2.2.2.2.2.1 s2.2.2.2.2.2.2.1 s2.2.2.2.2.2.2.2.1 s2.2.2.2.2.2.2.2.2.1 s2.2.2.2.2.2.2.2.2.2.1 s2.2.2.2.2.2.2.2.2.2.2.1 s2.2.2.2.2.2.2.2.2.2.2.2.1 s2.2.2.2.2.2.2.2.2.2.2.2.2 ca cj co xid xn).1)) (fun h1 => z_C h1 hs se sf s s1 nx kp rw ic fi lc fl ∧ q_zone h h1 100 115)) := by
  obtain ⟨sam, sst, ssv, slt, shs, slb, sga, sex, spr, ssb⟩ := w
  have hz := ssb.s0
  refine q_Spec_mono (e_am_statusAfter (d := d) sam sst slt shs slb xid xn hd) (fun o1 h1 hQ => ?_)
  obtain ⟨e1, n_am, n_st, n_lt, n_hs, n_lb, q9⟩ := hQ
  have n_lt2 : z_S2t h1 117 ((x_am_statusAfter s.1 s.2.1 s.2.2.1 s.2.2.2.1 s.2.2.2.2.1 s.2.2.2.2.2.1 s.2.2.2.2.2.2.1 s.2.2.2.2.2.2.2.1 s.2.2.2.2.2.2.2.2.1 s.2.2.2.2.2.2.2.2.2.1 s.2.2.2.2.2.2.2.2.2.2.1 s.2.2.2.2.2.2.2.2.2.2.2.1 s.2.2.2.2.2.2.2.2.2.2.2.2 s2.1 s2.2.1 s2.2.2.1 s2.2.2.2.1 s2.2.2.2.2.1 s2.2.2.2.2.2.1 s2.2.2.2.2.2.2.1 s2.2.2.2.2.2.2.2.1 s2.2.2.2.2.2.2.2.2.1 s2.2.2.2.2.2.2.2.2.2.1 s2.2.2.2.2.2.2.2.2.2.2.1 s2.2.2.2.2.2.2.2.2.2.2.2.1 s2.2.2.2.2.2.2.2.2.2.2.2.2 ca cj co xid xn).2.1, (x_am_statusAfter s.1 s.2.1 s.2.2.1 s.2.2.2.1 s.2.2.2.2.1 s.2.2.2.2.2.1 s.2.2.2.2.2.2.1 s.2.2.2.2.2.2.2.1 s.2.2.2.2.2.2.2.2.1 s.2.2.2.2.2.2.2.2.2.1 s.2.2.2.2.2.2.2.2.2.2.1 s.2.2.2.2.2.2.2.2.2.2.2.1 s.2.2.2.2.2.2.2.2.2.2.2.2 s2.1 s2.2.1 s2.2.2.1 s2.2.2.2.1 s2.2.2.2.2.1 s2.2.2.2.2.2.1 s2.2.2.2.2.2.2.1 s2.2.2.2.2.2.2.2.1 s2.2.2.2.2.2.2.2.2.1 s2.2.2.2.2.2.2.2.2.2.1 s2.2.2.2.2.2.2.2.2.2.2.1 s2.2.2.2.2.2.2.2.2.2.2.2.1 s2.2.2.2.2.2.2.2.2.2.2.2.2 ca cj co xid xn).2.2.1, (x_am_statusAfter s.1 s.2.1 s.2.2.1 s.2.2.2.1 s.2.2.2.2.1 s.2.2.2.2.2.1 s.2.2.2.2.2.2.1 s.2.2.2.2.2.2.2.1 s.2.2.2.2.2.2.2.2.1 s.2.2.2.2.2.2.2.2.2.1 s.2.2.2.2.2.2.2.2.2.2.1 s.2.2.2.2.2.2.2.2.2.2.2.1 s.2.2.2.2.2.2.2.2.2.2.2.2 s2.1 s2.2.1 s2.2.2.1 s2.2.2.2.1 s2.2.2.2.2.1 s2.2.2.2.2.2.1 s2.2.2.2.2.2.2.1 s2.2.2.2.2.2.2.2.1 s2.2.2.2.2.2.2.2.2.1 s2.2.2.2.2.2.2.2.2.2.1 s2.2.2.2.2.2.2.2.2.2.2.1 s2.2.2.2.2.2.2.2.2.2.2.2.1 s2.2.2.2.2.2.2.2.2.2.2.2.2 ca cj co xid xn).2.2.2.1, (x_am_statusAfter s.1 s.2.1 s.2.2.1 s.2.2.2.1 s.2.2.2.2.1 s.2.2.2.2.2.1 s.2.2.2.2.2.2.1 s.2.2.2.2.2.2.2.1 s.2.2.2.2.2.2.2.2.1 s.2.2.2.2.2.2.2.2.2.1 s.2.2.2.2.2.2.2.2.2.2.1 s.2.2.2.2.2.2.2.2.2.2.2.1 s.2.2.2.2.2.2.2.2.2.2.2.2 s2.1 s2.2.1 s2.2.2.1 s2.2.2.2.1 s2.2.2.2.2.1 s2.2.2.2.2.2.1 s2.2.2.2.2.2.2.1 s2.2.2.2.2.2.2.2.1 s2.2.2.2.2.2.2.2.2.1 s2.2.2.2.2.2.2.2.2.2.1 s2.2.2.2.2.2.2.2.2.2.2.1 s2.2.2.2.2.2.2.2.2.2.2.2.1 s2.2.2.2.2.2.2.2.2.2.2.2.2 ca cj co xid xn).2.2.2.2.1, (x_am_statusAfter s.1 s.2.1 s.2.2.1 s.2.2.2.1 s.2.2.2.2.1 s.2.2.2.2.2.1 s.2.2.2.2.2.2.1 s.2.2.2.2.2.2.2.1 s.2.2.2.2.2.2.2.2.1 s.2.2.2.2.2.2.2.2.2.1 s.2.2.2.2.2.2.2.2.2.2.1 s.2.2.2.2.2.2.2.2.2.2.2.1 s.2.2.2.2.2.2.2.2.2.2.2.2 s2.1 s2.2.1 s2.2.2.1 s2.2.2.2.1 s2.2.2.2.2.1 s2.2.2.2.2.2.1 s2.2.2.2.2.2.2.1 s2.2.2.2.2.2.2.2.1 s2.2.2.2.2.2.2.2.2.1 s2.2.2.2.2.2.2.2.2.2.1 s2.2.2.2.2.2.2.2.2.2.2.1 s2.2.2.2.2.2.2.2.2.2.2.2.1 s2.2.2.2.2.2.2.2.2.2.2.2.2 ca cj co xid xn).2.2.2.2.2.1, (x_am_statusAfter s.1 s.2.1 s.2.2.1 s.2.2.2.1 s.2.2.2.2.1 s.2.2.2.2.2.1 s.2.2.2.2.2.2.1 s.2.2.2.2.2.2.2.1 s.2.2.2.2.2.2.2.2.1 s.2.2.2.2.2.2.2.2.2.1 s.2.2.2.2.2.2.2.2.2.2.1 s.2.2.2.2.2.2.2.2.2.2.2.1 s.2.2.2.2.2.2.2.2.2.2.2.2 s2.1 s2.2.1 s2.2.2.1 s2.2.2.2.1 s2.2.2.2.2.1 s2.2.2.2.2.2.1 s2.2.2.2.2.2.2.1 s2.2.2.2.2.2.2.2.1 s2.2.2.2.2.2.2.2.2.1 s2.2.2.2.2.2.2.2.2.2.1 s2.2.2.2.2.2.2.2.2.2.2.1 s2.2.2.2.2.2.2.2.2.2.2.2.1 s2.2.2.2.2.2.2.2.2.2.2.2.2 ca cj co xid xn).2.2.2.2.2.2.1, (x_am_statusAfter s.1 s.2.1 s.2.2.1 s.2.2.2.1 s.2.2.2.2.1 s.2.2.2.2.2.1 s.2.2.2.2.2.2.1 s.2.2.2.2.2.2.2.1 s.2.2.2.2.2.2.2.2.1 s.2.2.2.2.2.2.2.2.2.1 s.2.2.2.2.2.2.2.2.2.2.1 s.2.2.2.2.2.2.2.2.2.2.2.1 s.2.2.2.2.2.2.2.2.2.2.2.2 s2.1 s2.2.1 s2.2.2.1 s2.2.2.2.1 s2.2.2.2.2.1 s2.2.2.2.2.2.1 s2.2.2.2.2.2.2.1 s2.2.2.2.2.2.2.2.1 s2.2.2.2.2.2.2.2.2.1 s2.2.2.2.2.2.2.2.2.2.1 s2.2.2.2.2.2.2.2.2.2.2.1 s2.2.2.2.2.2.2.2.2.2.2.2.1 s2.2.2.2.2.2.2.2.2.2.2.2.2 ca cj co xid xn).2.2.2.2.2.2.2.1, (x_am_statusAfter s.1 s.2.1 s.2.2.1 s.2.2.2.1 s.2.2.2.2.1 s.2.2.2.2.2.1 s.2.2.2.2.2.2.1 s.2.2.2.2.2.2.2.1 s.2.2.2.2.2.2.2.2.1 s.2.2.2.2.2.2.2.2.2.1 s.2.2.2.2.2.2.2.2.2.2.1 s.2.2.2.2.2.2.2.2.2.2.2.1 s.2.2.2.2.2.2.2.2.2.2.2.2 s2.1 s2.2.1 s2.2.2.1 s2.2.2.2.1 s2.2.2.2.2.1 s2.2.2.2.2.2.1 s2.2.2.2.2.2.2.1 s2.2.2.2.2.2.2.2.1 s2.2.2.2.2.2.2.2.2.1 s2.2.2.2.2.2.2.2.2.2.1 s2.2.2.2.2.2.2.2.2.2.2.1 s2.2.2.2.2.2.2.2.2.2.2.2.1 s2.2.2.2.2.2.2.2.2.2.2.2.2 ca cj co xid xn).2.2.2.2.2.2.2.2.1, (x_am_statusAfter s.1 s.2.1 s.2.2.1 s.2.2.2.1 s.2.2.2.2.1 s.2.2.2.2.2.1 s.2.2.2.2.2.2.1 s.2.2.2.2.2.2.2.1 s.2.2.2.2.2.2.2.2.1 s.2.2.2.2.2.2.2.2.2.1 s.2.2.2.2.2.2.2.2.2.2.1 s.2.2.2.2.2.2.2.2.2.2.2.1 s.2.2.2.2.2.2.2.2.2.2.2.2 s2.1 s2.2.1 s2.2.2.1 s2.2.2.2.1 s2.2.2.2.2.1 s2.2.2.2.2.2.1 s2.2.2.2.2.2.2.1 s2.2.2.2.2.2.2.2.1 s2.2.2.2.2.2.2.2.2.1 s2.2.2.2.2.2.2.2.2.2.1 s2.2.2.2.2.2.2.2.2.2.2.1 s2.2.2.2.2.2.2.2.2.2.2.2.1 s2.2.2.2.2.2.2.2.2.2.2.2.2 ca cj co xid xn).2.2.2.2.2.2.2.2.2.1, (x_am_statusAfter s.1 s.2.1 s.2.2.1 s.2.2.2.1 s.2.2.2.2.1 s.2.2.2.2.2.1 s.2.2.2.2.2.2.1 s.2.2.2.2.2.2.2.1 s.2.2.2.2.2.2.2.2.1 s.2.2.2.2.2.2.2.2.2.1 s.2.2.2.2.2.2.2.2.2.2.1 s.2.2.2.2.2.2.2.2.2.2.2.1 s.2.2.2.2.2.2.2.2.2.2.2.2 s2.1 s2.2.1 s2.2.2.1 s2.2.2.2.1 s2.2.2.2.2.1 s2.2.2.2.2.2.1 s2.2.2.2.2.2.2.1 s2.2.2.2.2.2.2.2.1 s2.2.2.2.2.2.2.2.2.1 s2.2.2.2.2.2.2.2.2.2.1 s2.2.2.2.2.2.2.2.2.2.2.1 s2.2.2.2.2.2.2.2.2.2.2.2.1 s2.2.2.2.2.2.2.2.2.2.2.2.2 ca cj co xid xn).2.2.2.2.2.2.2.2.2.2.1, (x_am_statusAfter s.1 s.2.1 s.2.2.1 s.2.2.2.1 s.2.2.2.2.1 s.2.2.2.2.2.1 s.2.2.2.2.2.2.1 s.2.2.2.2.2.2.2.1 s.2.2.2.2.2.2.2.2.1 s.2.2.2.2.2.2.2.2.2.1 s.2.2.2.2.2.2.2.2.2.2.1 s.2.2.2.2.2.2.2.2.2.2.2.1 s.2.2.2.2.2.2.2.2.2.2.2.2 s2.1 s2.2.1 s2.2.2.1 s2.2.2.2.1 s2.2.2.2.2.1 s2.2.2.2.2.2.1 s2.2.2.2.2.2.2.1 s2.2.2.2.2.2.2.2.1 s2.2.2.2.2.2.2.2.2.1 s2.2.2.2.2.2.2.2.2.2.1 s2.2.2.2.2.2.2.2.2.2.2.1 s2.2.2.2.2.2.2.2.2.2.2.2.1 s2.2.2.2.2.2.2.2.2.2.2.2.2 ca cj co xid xn).2.2.2.2.2.2.2.2.2.2.2.1, (x_am_statusAfter s.1 s.2.1 s.2.2.1 s.2.2.2.1 s.2.2.2.2.1 s.2.2.2.2.2.1 s.2.2.2.2.2.2.1 s.2.2.2.2.2.2.2.1 s.2.2.2.2.2.2.2.2.1 s.2.2.2.2.2.2.2.2.2.1 s.2.2.2.2.2.2.2.2.2.2.1 s.2.2.2.2.2.2.2.2.2.2.2.1 s.2.2.2.2.2.2.2.2.2.2.2.2 s2.1 s2.2.1 s2.2.2.1 s2.2.2.2.1 s2.2.2.2.2.1 s2.2.2.2.2.2.1 s2.2.2.2.2.2.2.1 s2.2.2.2.2.2.2.2.1 s2.2.2.2.2.2.2.2.2.1 s2.2.2.2.2.2.2.2.2.2.1 s2.2.2.2.2.2.2.2.2.2.2.1 s2.2.2.2.2.2.2.2.2.2.2.2.1 s2.2.2.2.2.2.2.2.2.2.2.2.2 ca cj co xid xn).2.2.2.2.2.2.2.2.2.2.2.2.1, (x_am_statusAfter s.1 s.2.1 s.2.2.1 s.2.2.2.1 s.2.2.2.2.1 s.2.2.2.2.2.1 s.2.2.2.2.2.2.1 s.2.2.2.2.2.2.2.1 s.2.2.2.2.2.2.2.2.1 s.2.2.2.2.2.2.2.2.2.1 s.2.2.2.2.2.2.2.2.2.2.1 s.2.2.2.2.2.2.2.2.2.2.2.1 s.2.2.2.2.2.2.2.2.2.2.2.2 s2.1 s2.2.1 s2.2.2.1 s2.2.2.2.1 s2.2.2.2.2.1 s2.2.2.2.2.2.1 s2.2.2.2.2.2.2.1 s2.2.2.2.2.2.2.2.1 s2.2.2.2.2.2.2.2.2.1 s2.2.2.2.2.2.2.2.2.2.1 s2.2.2.2.2.2.2.2.2.2.2.1 s2.2.2.2.2.2.2.2.2.2.2.2.1 s2.2.2.2.2.2.2.2.2.2.2.2.2 ca cj co xid xn).2.2.2.2.2.2.2.2.2.2.2.2.2.1) := n_lt
  have n_st2 : z_S2t h1 101 s := n_st
  exact ⟨e1, ⟨_, _, _, _, _, _, _, _, _, _, _, _, _, _, _, n_am, n_st2, ssv.keep q9 (by omega), n_lt2, n_hs, n_lb, sga.keep q9 (by omega), sex.keep q9 (by omega), spr.keep q9 (by omega), ssb.keep q9 (by omega)⟩, (q9.zone hz).wide (by omega) (by omega)⟩
set_option maxRecDepth 100000 in
set_option maxHeartbeats 4000000 in
theorem c_argumentByStrength {g : q_G} {h : q_H} {d : Nat} {hs : Bool} {se : Int32} {sf : Int32} {s : ZS} {s1 : ZS} {s2 : ZS} {nx : Nat} {kp : Nat} {rw : Nat → ZS} {ca : Int32} {cj : Int32} {co : Nat → Int32} {won : Nat → Int32} {lost : Nat → Int32} {pf : Nat → Int32} {cv : Nat → Int32} {sc : Nat} {pc : Nat} {pp : Nat} {po : Int32} {vb : Nat → Int32} {oa : Nat → Int32} {ob : Nat → Int32} {ic : Nat} {fi : Nat → Int32} {lc : Nat} {fl : Nat → Int32} (w : z_Cx h hs se sf s s1 s2 nx kp rw ca cj co won lost pf cv sc pc pp po vb oa ob ic fi lc fl) (xr : Int32)  (hd : 7 ≤ d) : q_Spec g mX10_argumentByStrength d 1 6 [.ref (100), .int (xr)] h (q_chg (q_oI ((x_am_argumentByStrength s.1 s.2.1 s.2.2.1 s.2.2.2.1 s.2.2.2.2.2.1 xr))) (fun h1 => z_C h1 hs se sf s s1 nx kp rw ic fi lc fl ∧ q_zone h h1 100 115)) := by
  obtain ⟨sam, sst, ssv, slt, shs, slb, sga, sex, spr, ssb⟩ := w
  have hz := ssb.s0
  refine q_Spec_mono (e_am_argumentByStrength (d := d) sam sst xr hd) (fun o1 h1 hQ => ?_)
  revert hQ
  rcases x_am_argumentByStrength s.1 s.2.1 s.2.2.1 s.2.2.2.1 s.2.2.2.2.2.1 xr with v | E
  · rintro ⟨e1, rfl⟩
    exact ⟨e1, ⟨⟨s2, ca, cj, co, won, lost, pf, cv, sc, pc, pp, po, vb, oa, ob, sam, sst, ssv, slt, shs, slb, sga, sex, spr, ssb⟩, q_zone.rfl'⟩⟩
  · rintro ⟨e1, rfl⟩
    exact ⟨e1, ⟨s2, ca, cj, co, won, lost, pf, cv, sc, pc, pp, po, vb, oa, ob, sam.keepI (Nat.le_succ _) (fun _ _ _ => rfl), sst.keepI (Nat.le_succ _) (fun _ _ _ => rfl), ssv.keepI (Nat.le_succ _) (fun _ _ _ => rfl), slt.keepI (Nat.le_succ _) (fun _ _ _ => rfl), shs.keepI (Nat.le_succ _) (fun _ _ _ => rfl), slb.keepI (Nat.le_succ _) (fun _ _ _ => rfl), sga.keepI (Nat.le_succ _) (fun _ _ _ => rfl), sex.keepI (Nat.le_succ _) (fun _ _ _ => rfl), spr.keepI (Nat.le_succ _) (fun _ _ _ => rfl), ssb.keep (q_same.skip (a := 215) (k := 0)) (by omega)⟩, q_zone.skip hz⟩
set_option maxRecDepth 100000 in
set_option maxHeartbeats 4000000 in
theorem c_isDialogueHeld {g : q_G} {h : q_H} {d : Nat} {hs : Bool} {se : Int32} {sf : Int32} {s : ZS} {s1 : ZS} {s2 : ZS} {nx : Nat} {kp : Nat} {rw : Nat → ZS} {ca : Int32} {cj : Int32} {co : Nat → Int32} {won : Nat → Int32} {lost : Nat → Int32} {pf : Nat → Int32} {cv : Nat → Int32} {sc : Nat} {pc : Nat} {pp : Nat} {po : Int32} {vb : Nat → Int32} {oa : Nat → Int32} {ob : Nat → Int32} {ic : Nat} {fi : Nat → Int32} {lc : Nat} {fl : Nat → Int32} (w : z_Cx h hs se sf s s1 s2 nx kp rw ca cj co won lost pf cv sc pc pp po vb oa ob ic fi lc fl)   (hd : 1 ≤ d) : q_Spec g mX10_isDialogueHeld d 0 0 [.ref (100)] h (q_chg (.inl (some (.int (z_b ((x_am_isDialogueHeld s.2.2.2.2.2.2.2.2.1)))))) (fun h1 => z_C h1 hs se sf s s1 nx kp rw ic fi lc fl ∧ q_zone h h1 100 115)) := by
  obtain ⟨sam, sst, ssv, slt, shs, slb, sga, sex, spr, ssb⟩ := w
  have hz := ssb.s0
  refine q_Spec_mono (e_am_isDialogueHeld (d := d) sam sst hd) (fun o1 h1 hQ => ?_)
  obtain ⟨e1, rfl⟩ := hQ
  exact ⟨e1, ⟨⟨s2, ca, cj, co, won, lost, pf, cv, sc, pc, pp, po, vb, oa, ob, sam, sst, ssv, slt, shs, slb, sga, sex, spr, ssb⟩, q_zone.rfl'⟩⟩
set_option maxRecDepth 100000 in
set_option maxHeartbeats 4000000 in
theorem c_moveCount {g : q_G} {h : q_H} {d : Nat} {hs : Bool} {se : Int32} {sf : Int32} {s : ZS} {s1 : ZS} {s2 : ZS} {nx : Nat} {kp : Nat} {rw : Nat → ZS} {ca : Int32} {cj : Int32} {co : Nat → Int32} {won : Nat → Int32} {lost : Nat → Int32} {pf : Nat → Int32} {cv : Nat → Int32} {sc : Nat} {pc : Nat} {pp : Nat} {po : Int32} {vb : Nat → Int32} {oa : Nat → Int32} {ob : Nat → Int32} {ic : Nat} {fi : Nat → Int32} {lc : Nat} {fl : Nat → Int32} (w : z_Cx h hs se sf s s1 s2 nx kp rw ca cj co won lost pf cv sc pc pp po vb oa ob ic fi lc fl)   (hd : 0 ≤ d) : q_Spec g mX10_moveCount d 0 0 [.ref (100)] h (q_chg (.inl (some (.int ((x_am_moveCount s.2.2.2.2.2.2.2.2.1))))) (fun h1 => z_C h1 hs se sf s s1 nx kp rw ic fi lc fl ∧ q_zone h h1 100 115)) := by
  obtain ⟨sam, sst, ssv, slt, shs, slb, sga, sex, spr, ssb⟩ := w
  have hz := ssb.s0
  refine q_Spec_mono (e_am_moveCount (d := d) sam sst hd) (fun o1 h1 hQ => ?_)
  obtain ⟨e1, rfl⟩ := hQ
  exact ⟨e1, ⟨⟨s2, ca, cj, co, won, lost, pf, cv, sc, pc, pp, po, vb, oa, ob, sam, sst, ssv, slt, shs, slb, sga, sex, spr, ssb⟩, q_zone.rfl'⟩⟩
set_option maxRecDepth 100000 in
set_option maxHeartbeats 4000000 in
theorem c_moveAt {g : q_G} {h : q_H} {d : Nat} {hs : Bool} {se : Int32} {sf : Int32} {s : ZS} {s1 : ZS} {s2 : ZS} {nx : Nat} {kp : Nat} {rw : Nat → ZS} {ca : Int32} {cj : Int32} {co : Nat → Int32} {won : Nat → Int32} {lost : Nat → Int32} {pf : Nat → Int32} {cv : Nat → Int32} {sc : Nat} {pc : Nat} {pp : Nat} {po : Int32} {vb : Nat → Int32} {oa : Nat → Int32} {ob : Nat → Int32} {ic : Nat} {fi : Nat → Int32} {lc : Nat} {fl : Nat → Int32} (w : z_Cx h hs se sf s s1 s2 nx kp rw ca cj co won lost pf cv sc pc pp po vb oa ob ic fi lc fl) (xp : Int32)  (hd : 7 ≤ d) : q_Spec g mX10_moveAt d 1 6 [.ref (100), .int (xp)] h (q_chg (q_oI ((x_am_moveAt s.2.2.2.2.2.2.2.2.1 s.2.2.2.2.2.2.2.2.2.1 xp))) (fun h1 => z_C h1 hs se sf s s1 nx kp rw ic fi lc fl ∧ q_zone h h1 100 115)) := by
  obtain ⟨sam, sst, ssv, slt, shs, slb, sga, sex, spr, ssb⟩ := w
  have hz := ssb.s0
  refine q_Spec_mono (e_am_moveAt (d := d) sam sst xp hd) (fun o1 h1 hQ => ?_)
  revert hQ
  rcases x_am_moveAt s.2.2.2.2.2.2.2.2.1 s.2.2.2.2.2.2.2.2.2.1 xp with v | E
  · rintro ⟨e1, rfl⟩
    exact ⟨e1, ⟨⟨s2, ca, cj, co, won, lost, pf, cv, sc, pc, pp, po, vb, oa, ob, sam, sst, ssv, slt, shs, slb, sga, sex, spr, ssb⟩, q_zone.rfl'⟩⟩
  · rintro ⟨e1, rfl⟩
    exact ⟨e1, ⟨s2, ca, cj, co, won, lost, pf, cv, sc, pc, pp, po, vb, oa, ob, sam.keepI (Nat.le_succ _) (fun _ _ _ => rfl), sst.keepI (Nat.le_succ _) (fun _ _ _ => rfl), ssv.keepI (Nat.le_succ _) (fun _ _ _ => rfl), slt.keepI (Nat.le_succ _) (fun _ _ _ => rfl), shs.keepI (Nat.le_succ _) (fun _ _ _ => rfl), slb.keepI (Nat.le_succ _) (fun _ _ _ => rfl), sga.keepI (Nat.le_succ _) (fun _ _ _ => rfl), sex.keepI (Nat.le_succ _) (fun _ _ _ => rfl), spr.keepI (Nat.le_succ _) (fun _ _ _ => rfl), ssb.keep (q_same.skip (a := 215) (k := 0)) (by omega)⟩, q_zone.skip hz⟩
set_option maxRecDepth 100000 in
set_option maxHeartbeats 4000000 in
theorem c_canMove {g : q_G} {h : q_H} {d : Nat} {hs : Bool} {se : Int32} {sf : Int32} {s : ZS} {s1 : ZS} {s2 : ZS} {nx : Nat} {kp : Nat} {rw : Nat → ZS} {ca : Int32} {cj : Int32} {co : Nat → Int32} {won : Nat → Int32} {lost : Nat → Int32} {pf : Nat → Int32} {cv : Nat → Int32} {sc : Nat} {pc : Nat} {pp : Nat} {po : Int32} {vb : Nat → Int32} {oa : Nat → Int32} {ob : Nat → Int32} {ic : Nat} {fi : Nat → Int32} {lc : Nat} {fl : Nat → Int32} (w : z_Cx h hs se sf s s1 s2 nx kp rw ca cj co won lost pf cv sc pc pp po vb oa ob ic fi lc fl) (xid : Int32)  (hd : 9 ≤ d) : q_Spec g mX10_canMove d 3 18 [.ref (100), .int (xid)] h (q_chg (q_oB ((x_am_canMove s.1 s.2.1 s.2.2.2.2.2.1 s.2.2.2.2.2.2.2.2.1 s.2.2.2.2.2.2.2.2.2.1 xid))) (fun h1 => z_C h1 hs se sf s s1 nx kp rw ic fi lc fl ∧ q_zone h h1 100 115)) := by
  obtain ⟨sam, sst, ssv, slt, shs, slb, sga, sex, spr, ssb⟩ := w
  have hz := ssb.s0
  refine q_Spec_mono (e_am_canMove (d := d) sam sst xid hd) (fun o1 h1 hQ => ?_)
  revert hQ
  rcases x_am_canMove s.1 s.2.1 s.2.2.2.2.2.1 s.2.2.2.2.2.2.2.2.1 s.2.2.2.2.2.2.2.2.2.1 xid with v | E
  · rintro ⟨e1, rfl⟩
    exact ⟨e1, ⟨⟨s2, ca, cj, co, won, lost, pf, cv, sc, pc, pp, po, vb, oa, ob, sam, sst, ssv, slt, shs, slb, sga, sex, spr, ssb⟩, q_zone.rfl'⟩⟩
  · rintro ⟨e1, rfl⟩
    exact ⟨e1, ⟨s2, ca, cj, co, won, lost, pf, cv, sc, pc, pp, po, vb, oa, ob, sam.keepI (Nat.le_succ _) (fun _ _ _ => rfl), sst.keepI (Nat.le_succ _) (fun _ _ _ => rfl), ssv.keepI (Nat.le_succ _) (fun _ _ _ => rfl), slt.keepI (Nat.le_succ _) (fun _ _ _ => rfl), shs.keepI (Nat.le_succ _) (fun _ _ _ => rfl), slb.keepI (Nat.le_succ _) (fun _ _ _ => rfl), sga.keepI (Nat.le_succ _) (fun _ _ _ => rfl), sex.keepI (Nat.le_succ _) (fun _ _ _ => rfl), spr.keepI (Nat.le_succ _) (fun _ _ _ => rfl), ssb.keep (q_same.skip (a := 215) (k := 0)) (by omega)⟩, q_zone.skip hz⟩
set_option maxRecDepth 100000 in
set_option maxHeartbeats 4000000 in
theorem c_meanStrength {g : q_G} {h : q_H} {d : Nat} {hs : Bool} {se : Int32} {sf : Int32} {s : ZS} {s1 : ZS} {s2 : ZS} {nx : Nat} {kp : Nat} {rw : Nat → ZS} {ca : Int32} {cj : Int32} {co : Nat → Int32} {won : Nat → Int32} {lost : Nat → Int32} {pf : Nat → Int32} {cv : Nat → Int32} {sc : Nat} {pc : Nat} {pp : Nat} {po : Int32} {vb : Nat → Int32} {oa : Nat → Int32} {ob : Nat → Int32} {ic : Nat} {fi : Nat → Int32} {lc : Nat} {fl : Nat → Int32} (w : z_Cx h hs se sf s s1 s2 nx kp rw ca cj co won lost pf cv sc pc pp po vb oa ob ic fi lc fl)  (hnan : z_nanD s.1 (x_am_meanStrength_25 s.2.2.1 s.2.2.2.1 s.1 0 0)) (hd : 7 ≤ d) : q_Spec g mX10_meanStrength d 1 6 [.ref (100)] h (q_chg (q_oD ((x_am_meanStrength s.1 s.2.2.1 s.2.2.2.1))) (fun h1 => z_C h1 hs se sf s s1 nx kp rw ic fi lc fl ∧ q_zone h h1 100 115)) := by
  obtain ⟨sam, sst, ssv, slt, shs, slb, sga, sex, spr, ssb⟩ := w
  have hz := ssb.s0
  refine q_Spec_mono (e_am_meanStrength (d := d) sam sst hnan hd) (fun o1 h1 hQ => ?_)
  revert hQ
  rcases x_am_meanStrength s.1 s.2.2.1 s.2.2.2.1 with v | E
  · rintro ⟨e1, rfl⟩
    exact ⟨e1, ⟨⟨s2, ca, cj, co, won, lost, pf, cv, sc, pc, pp, po, vb, oa, ob, sam, sst, ssv, slt, shs, slb, sga, sex, spr, ssb⟩, q_zone.rfl'⟩⟩
  · rintro ⟨e1, rfl⟩
    exact ⟨e1, ⟨s2, ca, cj, co, won, lost, pf, cv, sc, pc, pp, po, vb, oa, ob, sam.keepI (Nat.le_succ _) (fun _ _ _ => rfl), sst.keepI (Nat.le_succ _) (fun _ _ _ => rfl), ssv.keepI (Nat.le_succ _) (fun _ _ _ => rfl), slt.keepI (Nat.le_succ _) (fun _ _ _ => rfl), shs.keepI (Nat.le_succ _) (fun _ _ _ => rfl), slb.keepI (Nat.le_succ _) (fun _ _ _ => rfl), sga.keepI (Nat.le_succ _) (fun _ _ _ => rfl), sex.keepI (Nat.le_succ _) (fun _ _ _ => rfl), spr.keepI (Nat.le_succ _) (fun _ _ _ => rfl), ssb.keep (q_same.skip (a := 215) (k := 0)) (by omega)⟩, q_zone.skip hz⟩
set_option maxRecDepth 100000 in
set_option maxHeartbeats 4000000 in
theorem c_acceptedShare {g : q_G} {h : q_H} {d : Nat} {hs : Bool} {se : Int32} {sf : Int32} {s : ZS} {s1 : ZS} {s2 : ZS} {nx : Nat} {kp : Nat} {rw : Nat → ZS} {ca : Int32} {cj : Int32} {co : Nat → Int32} {won : Nat → Int32} {lost : Nat → Int32} {pf : Nat → Int32} {cv : Nat → Int32} {sc : Nat} {pc : Nat} {pp : Nat} {po : Int32} {vb : Nat → Int32} {oa : Nat → Int32} {ob : Nat → Int32} {ic : Nat} {fi : Nat → Int32} {lc : Nat} {fl : Nat → Int32} (w : z_Cx h hs se sf s s1 s2 nx kp rw ca cj co won lost pf cv sc pc pp po vb oa ob ic fi lc fl)  (hnan : z_nanF s.1 ((x_am_acceptedCount s.1 s.2.2.2.2.2.1 co).1)) (hd : 7 ≤ d) : q_Spec g mX10_acceptedShare d 1 6 [.ref (100)] h (q_chg (q_oF ((x_am_acceptedShare s.1 s.2.2.2.2.2.1 ca cj co).1)) (fun h1 => z_C h1 hs se sf s s1 nx kp rw ic fi lc fl ∧ q_zone h h1 100 115)) := by
  obtain ⟨sam, sst, ssv, slt, shs, slb, sga, sex, spr, ssb⟩ := w
  have hz := ssb.s0
  refine q_Spec_mono (e_am_acceptedShare (d := d) sam sst slb hnan hd) (fun o1 h1 hQ => ?_)
  obtain ⟨e1, n_am, n_st, n_lb, q9⟩ := hQ
  have n_st2 : z_S2t h1 101 s := n_st
  exact ⟨e1, ⟨_, _, _, _, _, _, _, _, _, _, _, _, _, _, _, n_am, n_st2, ssv.keep q9 (by omega), slt.keep q9 (by omega), shs.keep q9 (by omega), n_lb, sga.keep q9 (by omega), sex.keep q9 (by omega), spr.keep q9 (by omega), ssb.keep q9 (by omega)⟩, (q9.zone hz).wide (by omega) (by omega)⟩
set_option maxRecDepth 100000 in
set_option maxHeartbeats 4000000 in
theorem c_isConsistent {g : q_G} {h : q_H} {d : Nat} {hs : Bool} {se : Int32} {sf : Int32} {s : ZS} {s1 : ZS} {s2 : ZS} {nx : Nat} {kp : Nat} {rw : Nat → ZS} {ca : Int32} {cj : Int32} {co : Nat → Int32} {won : Nat → Int32} {lost : Nat → Int32} {pf : Nat → Int32} {cv : Nat → Int32} {sc : Nat} {pc : Nat} {pp : Nat} {po : Int32} {vb : Nat → Int32} {oa : Nat → Int32} {ob : Nat → Int32} {ic : Nat} {fi : Nat → Int32} {lc : Nat} {fl : Nat → Int32} (w : z_Cx h hs se sf s s1 s2 nx kp rw ca cj co won lost pf cv sc pc pp po vb oa ob ic fi lc fl)   (hd : 24 ≤ d) : q_Spec g mX10_isConsistent d 0 0 [.ref (100)] h (q_chg (.inl (some (.int (z_b ((x_am_isConsistent s.1 s.2.2.2.2.2.1 co won lost).1))))) (fun h1 => z_C h1 hs se sf s s1 nx kp rw ic fi lc fl ∧ q_zone h h1 100 115)) := by
  obtain ⟨sam, sst, ssv, slt, shs, slb, sga, sex, spr, ssb⟩ := w
  have hz := ssb.s0
  refine q_Spec_mono (e_am_isConsistent (d := d) sam sst slb sga sex hd) (fun o1 h1 hQ => ?_)
  obtain ⟨e1, n_am, n_st, n_lb, n_ga, n_ex, q9⟩ := hQ
  have n_st2 : z_S2t h1 101 s := n_st
  exact ⟨e1, ⟨_, _, _, _, _, _, _, _, _, _, _, _, _, _, _, n_am, n_st2, ssv.keep q9 (by omega), slt.keep q9 (by omega), shs.keep q9 (by omega), n_lb, n_ga, n_ex, spr.keep q9 (by omega), ssb.keep q9 (by omega)⟩, (q9.zone hz).wide (by omega) (by omega)⟩
set_option maxRecDepth 100000 in
set_option maxHeartbeats 4000000 in
theorem c_formatArgument {g : q_G} {h : q_H} {d : Nat} {hs : Bool} {se : Int32} {sf : Int32} {s : ZS} {s1 : ZS} {s2 : ZS} {nx : Nat} {kp : Nat} {rw : Nat → ZS} {ca : Int32} {cj : Int32} {co : Nat → Int32} {won : Nat → Int32} {lost : Nat → Int32} {pf : Nat → Int32} {cv : Nat → Int32} {sc : Nat} {pc : Nat} {pp : Nat} {po : Int32} {vb : Nat → Int32} {oa : Nat → Int32} {ob : Nat → Int32} {ic : Nat} {fi : Nat → Int32} {lc : Nat} {fl : Nat → Int32} (w : z_Cx h hs se sf s s1 s2 nx kp rw ca cj co won lost pf cv sc pc pp po vb oa ob ic fi lc fl) (xid : Int32) (hnx : ∀ v, x_st_slotOfKnown s.1 s.2.1 xid = .inl v → ∃ m : Nat, m < 10000 ∧ xid = nI m) (hnid : ∀ j, j < s.1 → ∃ m : Nat, m < 10000 ∧ s.2.1 j = nI m) (hnwt : ∀ j, j < s.1 → ∃ m : Nat, m < 10000 ∧ s.2.2.1 j = nI m) (hnst : ∀ j, j < s.1 → ∃ m : Nat, m < 10000 ∧ x_st_strength s.2.2.1 s.2.2.2.1 j = nI m) (hd : 8 ≤ d) : q_Spec g mX10_formatArgument d 25 6870 [.ref (100), .int (xid)] h (q_chg (q_oI ((x_am_formatArgument s.1 s.2.1 s.2.2.1 s.2.2.2.1 s.2.2.2.2.2.1 ca cj co lc fl xid).1)) (fun h1 => z_C h1 hs se sf s s1 nx kp rw ic fi ((x_am_formatArgument s.1 s.2.1 s.2.2.1 s.2.2.2.1 s.2.2.2.2.2.1 ca cj co lc fl xid).2.2.2.2.1) ((x_am_formatArgument s.1 s.2.1 s.2.2.1 s.2.2.2.1 s.2.2.2.2.2.1 ca cj co lc fl xid).2.2.2.2.2) ∧ q_zone h h1 100 115)) := by
  obtain ⟨sam, sst, ssv, slt, shs, slb, sga, sex, spr, ssb⟩ := w
  have hz := ssb.s0
  refine q_Spec_mono (e_am_formatArgument (d := d) sam sst slb sga sex spr ssb xid hnx hnid hnwt hnst hd) (fun o1 h1 hQ => ?_)
  obtain ⟨e1, n_am, n_st, n_lb, n_ga, n_ex, n_pr, n_sb, q9⟩ := hQ
  have n_st2 : z_S2t h1 101 s := n_st
  exact ⟨e1, ⟨_, _, _, _, _, _, _, _, _, _, _, _, _, _, _, n_am, n_st2, ssv.keepZ q9 (by omega), slt.keepZ q9 (by omega), shs.keepZ q9 (by omega), n_lb, n_ga, n_ex, n_pr, n_sb⟩, q9.wide (by omega) (by omega)⟩
set_option maxRecDepth 100000 in
set_option maxHeartbeats 4000000 in
theorem c_formatDialogue {g : q_G} {h : q_H} {d : Nat} {hs : Bool} {se : Int32} {sf : Int32} {s : ZS} {s1 : ZS} {s2 : ZS} {nx : Nat} {kp : Nat} {rw : Nat → ZS} {ca : Int32} {cj : Int32} {co : Nat → Int32} {won : Nat → Int32} {lost : Nat → Int32} {pf : Nat → Int32} {cv : Nat → Int32} {sc : Nat} {pc : Nat} {pp : Nat} {po : Int32} {vb : Nat → Int32} {oa : Nat → Int32} {ob : Nat → Int32} {ic : Nat} {fi : Nat → Int32} {lc : Nat} {fl : Nat → Int32} (w : z_Cx h hs se sf s s1 s2 nx kp rw ca cj co won lost pf cv sc pc pp po vb oa ob ic fi lc fl)  (hnmv : ∀ j, j < s.2.2.2.2.2.2.2.2.1 → ∃ m : Nat, m < 10000 ∧ s.2.2.2.2.2.2.2.2.2.1 j = nI m) (hd : 8 ≤ d) : q_Spec g mX10_formatDialogue d 38 10588 [.ref (100)] h (q_chg (q_oI ((x_am_formatDialogue s.2.2.2.2.2.2.2.2.1 s.2.2.2.2.2.2.2.2.2.1 lc fl).1)) (fun h1 => z_C h1 hs se sf s s1 nx kp rw ic fi ((x_am_formatDialogue s.2.2.2.2.2.2.2.2.1 s.2.2.2.2.2.2.2.2.2.1 lc fl).2.1) ((x_am_formatDialogue s.2.2.2.2.2.2.2.2.1 s.2.2.2.2.2.2.2.2.2.1 lc fl).2.2) ∧ q_zone h h1 100 115)) := by
  obtain ⟨sam, sst, ssv, slt, shs, slb, sga, sex, spr, ssb⟩ := w
  have hz := ssb.s0
  refine q_Spec_mono (e_am_formatDialogue (d := d) sam sst ssb hnmv hd) (fun o1 h1 hQ => ?_)
  obtain ⟨e1, n_am, n_st, n_sb, q9⟩ := hQ
  have n_st2 : z_S2t h1 101 s := n_st
  exact ⟨e1, ⟨_, _, _, _, _, _, _, _, _, _, _, _, _, _, _, n_am, n_st2, ssv.keepZ q9 (by omega), slt.keepZ q9 (by omega), shs.keepZ q9 (by omega), slb.keepZ q9 (by omega), sga.keepZ q9 (by omega), sex.keepZ q9 (by omega), spr.keepZ q9 (by omega), n_sb⟩, q9.wide (by omega) (by omega)⟩
set_option maxRecDepth 100000 in
set_option maxHeartbeats 4000000 in
theorem c_lineChar {g : q_G} {h : q_H} {d : Nat} {hs : Bool} {se : Int32} {sf : Int32} {s : ZS} {s1 : ZS} {s2 : ZS} {nx : Nat} {kp : Nat} {rw : Nat → ZS} {ca : Int32} {cj : Int32} {co : Nat → Int32} {won : Nat → Int32} {lost : Nat → Int32} {pf : Nat → Int32} {cv : Nat → Int32} {sc : Nat} {pc : Nat} {pp : Nat} {po : Int32} {vb : Nat → Int32} {oa : Nat → Int32} {ob : Nat → Int32} {ic : Nat} {fi : Nat → Int32} {lc : Nat} {fl : Nat → Int32} (w : z_Cx h hs se sf s s1 s2 nx kp rw ca cj co won lost pf cv sc pc pp po vb oa ob ic fi lc fl) (xp : Int32)  (hd : 7 ≤ d) : q_Spec g mX10_lineChar d 1 6 [.ref (100), .int (xp)] h (q_chg (q_oI ((x_am_lineChar lc fl xp))) (fun h1 => z_C h1 hs se sf s s1 nx kp rw ic fi lc fl ∧ q_zone h h1 100 115)) := by
  obtain ⟨sam, sst, ssv, slt, shs, slb, sga, sex, spr, ssb⟩ := w
  have hz := ssb.s0
  refine q_Spec_mono (e_am_lineChar (d := d) sam ssb xp hd) (fun o1 h1 hQ => ?_)
  revert hQ
  rcases x_am_lineChar lc fl xp with v | E
  · rintro ⟨e1, rfl⟩
    exact ⟨e1, ⟨⟨s2, ca, cj, co, won, lost, pf, cv, sc, pc, pp, po, vb, oa, ob, sam, sst, ssv, slt, shs, slb, sga, sex, spr, ssb⟩, q_zone.rfl'⟩⟩
  · rintro ⟨e1, rfl⟩
    exact ⟨e1, ⟨s2, ca, cj, co, won, lost, pf, cv, sc, pc, pp, po, vb, oa, ob, sam.keepI (Nat.le_succ _) (fun _ _ _ => rfl), sst.keepI (Nat.le_succ _) (fun _ _ _ => rfl), ssv.keepI (Nat.le_succ _) (fun _ _ _ => rfl), slt.keepI (Nat.le_succ _) (fun _ _ _ => rfl), shs.keepI (Nat.le_succ _) (fun _ _ _ => rfl), slb.keepI (Nat.le_succ _) (fun _ _ _ => rfl), sga.keepI (Nat.le_succ _) (fun _ _ _ => rfl), sex.keepI (Nat.le_succ _) (fun _ _ _ => rfl), spr.keepI (Nat.le_succ _) (fun _ _ _ => rfl), ssb.keep (q_same.skip (a := 215) (k := 0)) (by omega)⟩, q_zone.skip hz⟩
def x_mo_thrownR (th : Int32) : Int32 := th
