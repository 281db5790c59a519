theorem upd_eq {f : Nat → Int32} {k : Nat} {x : Int32} : upd f k x k = x := pk_us
theorem upd_ne {f : Nat → Int32} {k j : Nat} {x : Int32} (h : j ≠ k) : upd f k x j = f j := pk_un h
def z_Mr (h : q_H) (b : Nat) (th : Int32) (al : Nat → Int32) (cg : Nat) (sv : Bool) (rs : Int32) (ac : Int32) (rj : Int32) (ro : Nat → Int32) (ad : Nat → Int32) (bf : Nat → Int32) (ln : Nat → Int32) (lz : Nat) (ip : Nat → Int32) (ty : Nat) (he : Nat) (er : Int32) (ea : Int32) (fa : Int32) (cm : Nat → Int32) (cn : Nat) : Prop :=
  q_R0 ≤ b ∧
  b + 8 ≤ h.1 ∧
  cg ≤ 8 ∧
  lz ≤ 160 ∧
  ty ≤ 60 ∧
  he ≤ 60 ∧
  cn ≤ 61 ∧
  h.2 (b) = some (.inr (12, [.int (th), .ref (b + 1), .int (nI (cg)), .int (z_b (sv)), .int (rs), .int (ac), .int (rj), .ref (b + 2), .ref (b + 3), .ref (b + 4), .ref (b + 5), .int (nI (lz)), .ref (b + 6), .int (nI (ty)), .int (nI (he)), .int (er), .int (ea), .int (fa), .ref (b + 7), .int (nI (cn))])) ∧
  h.2 (b + 1) = some (.inl (0, 612, .inl (al))) ∧
  h.2 (b + 2) = some (.inl (0, 8, .inl (ro))) ∧
  h.2 (b + 3) = some (.inl (1, 256, .inl (ad))) ∧
  h.2 (b + 4) = some (.inl (0, 8, .inl (bf))) ∧
  h.2 (b + 5) = some (.inl (2, 160, .inl (ln))) ∧
  h.2 (b + 6) = some (.inl (2, 60, .inl (ip))) ∧
  h.2 (b + 7) = some (.inl (0, 183, .inl (cm)))
theorem z_Mr.r0 {h : q_H} {b : Nat} {th : Int32} {al : Nat → Int32} {cg : Nat} {sv : Bool} {rs : Int32} {ac : Int32} {rj : Int32} {ro : Nat → Int32} {ad : Nat → Int32} {bf : Nat → Int32} {ln : Nat → Int32} {lz : Nat} {ip : Nat → Int32} {ty : Nat} {he : Nat} {er : Int32} {ea : Int32} {fa : Int32} {cm : Nat → Int32} {cn : Nat} (s : z_Mr h b th al cg sv rs ac rj ro ad bf ln lz ip ty he er ea fa cm cn) : q_R0 ≤ b := s.1
theorem z_Mr.s0 {h : q_H} {b : Nat} {th : Int32} {al : Nat → Int32} {cg : Nat} {sv : Bool} {rs : Int32} {ac : Int32} {rj : Int32} {ro : Nat → Int32} {ad : Nat → Int32} {bf : Nat → Int32} {ln : Nat → Int32} {lz : Nat} {ip : Nat → Int32} {ty : Nat} {he : Nat} {er : Int32} {ea : Int32} {fa : Int32} {cm : Nat → Int32} {cn : Nat} (s : z_Mr h b th al cg sv rs ac rj ro ad bf ln lz ip ty he er ea fa cm cn) : b + 8 ≤ h.1 := s.2.1
theorem z_Mr.bcg {h : q_H} {b : Nat} {th : Int32} {al : Nat → Int32} {cg : Nat} {sv : Bool} {rs : Int32} {ac : Int32} {rj : Int32} {ro : Nat → Int32} {ad : Nat → Int32} {bf : Nat → Int32} {ln : Nat → Int32} {lz : Nat} {ip : Nat → Int32} {ty : Nat} {he : Nat} {er : Int32} {ea : Int32} {fa : Int32} {cm : Nat → Int32} {cn : Nat} (s : z_Mr h b th al cg sv rs ac rj ro ad bf ln lz ip ty he er ea fa cm cn) : cg ≤ 8 := s.2.2.1
theorem z_Mr.blz {h : q_H} {b : Nat} {th : Int32} {al : Nat → Int32} {cg : Nat} {sv : Bool} {rs : Int32} {ac : Int32} {rj : Int32} {ro : Nat → Int32} {ad : Nat → Int32} {bf : Nat → Int32} {ln : Nat → Int32} {lz : Nat} {ip : Nat → Int32} {ty : Nat} {he : Nat} {er : Int32} {ea : Int32} {fa : Int32} {cm : Nat → Int32} {cn : Nat} (s : z_Mr h b th al cg sv rs ac rj ro ad bf ln lz ip ty he er ea fa cm cn) : lz ≤ 160 := s.2.2.2.1
theorem z_Mr.bty {h : q_H} {b : Nat} {th : Int32} {al : Nat → Int32} {cg : Nat} {sv : Bool} {rs : Int32} {ac : Int32} {rj : Int32} {ro : Nat → Int32} {ad : Nat → Int32} {bf : Nat → Int32} {ln : Nat → Int32} {lz : Nat} {ip : Nat → Int32} {ty : Nat} {he : Nat} {er : Int32} {ea : Int32} {fa : Int32} {cm : Nat → Int32} {cn : Nat} (s : z_Mr h b th al cg sv rs ac rj ro ad bf ln lz ip ty he er ea fa cm cn) : ty ≤ 60 := s.2.2.2.2.1
theorem z_Mr.bhe {h : q_H} {b : Nat} {th : Int32} {al : Nat → Int32} {cg : Nat} {sv : Bool} {rs : Int32} {ac : Int32} {rj : Int32} {ro : Nat → Int32} {ad : Nat → Int32} {bf : Nat → Int32} {ln : Nat → Int32} {lz : Nat} {ip : Nat → Int32} {ty : Nat} {he : Nat} {er : Int32} {ea : Int32} {fa : Int32} {cm : Nat → Int32} {cn : Nat} (s : z_Mr h b th al cg sv rs ac rj ro ad bf ln lz ip ty he er ea fa cm cn) : he ≤ 60 := s.2.2.2.2.2.1
theorem z_Mr.bcn {h : q_H} {b : Nat} {th : Int32} {al : Nat → Int32} {cg : Nat} {sv : Bool} {rs : Int32} {ac : Int32} {rj : Int32} {ro : Nat → Int32} {ad : Nat → Int32} {bf : Nat → Int32} {ln : Nat → Int32} {lz : Nat} {ip : Nat → Int32} {ty : Nat} {he : Nat} {er : Int32} {ea : Int32} {fa : Int32} {cm : Nat → Int32} {cn : Nat} (s : z_Mr h b th al cg sv rs ac rj ro ad bf ln lz ip ty he er ea fa cm cn) : cn ≤ 61 := s.2.2.2.2.2.2.1
theorem z_Mr.c0 {h : q_H} {b : Nat} {th : Int32} {al : Nat → Int32} {cg : Nat} {sv : Bool} {rs : Int32} {ac : Int32} {rj : Int32} {ro : Nat → Int32} {ad : Nat → Int32} {bf : Nat → Int32} {ln : Nat → Int32} {lz : Nat} {ip : Nat → Int32} {ty : Nat} {he : Nat} {er : Int32} {ea : Int32} {fa : Int32} {cm : Nat → Int32} {cn : Nat} (s : z_Mr h b th al cg sv rs ac rj ro ad bf ln lz ip ty he er ea fa cm cn) : h.2 (b) = some (.inr (12, [.int (th), .ref (b + 1), .int (nI (cg)), .int (z_b (sv)), .int (rs), .int (ac), .int (rj), .ref (b + 2), .ref (b + 3), .ref (b + 4), .ref (b + 5), .int (nI (lz)), .ref (b + 6), .int (nI (ty)), .int (nI (he)), .int (er), .int (ea), .int (fa), .ref (b + 7), .int (nI (cn))])) := s.2.2.2.2.2.2.2.1
theorem z_Mr.c1 {h : q_H} {b : Nat} {th : Int32} {al : Nat → Int32} {cg : Nat} {sv : Bool} {rs : Int32} {ac : Int32} {rj : Int32} {ro : Nat → Int32} {ad : Nat → Int32} {bf : Nat → Int32} {ln : Nat → Int32} {lz : Nat} {ip : Nat → Int32} {ty : Nat} {he : Nat} {er : Int32} {ea : Int32} {fa : Int32} {cm : Nat → Int32} {cn : Nat} (s : z_Mr h b th al cg sv rs ac rj ro ad bf ln lz ip ty he er ea fa cm cn) : h.2 (b + 1) = some (.inl (0, 612, .inl (al))) := s.2.2.2.2.2.2.2.2.1
theorem z_Mr.c2 {h : q_H} {b : Nat} {th : Int32} {al : Nat → Int32} {cg : Nat} {sv : Bool} {rs : Int32} {ac : Int32} {rj : Int32} {ro : Nat → Int32} {ad : Nat → Int32} {bf : Nat → Int32} {ln : Nat → Int32} {lz : Nat} {ip : Nat → Int32} {ty : Nat} {he : Nat} {er : Int32} {ea : Int32} {fa : Int32} {cm : Nat → Int32} {cn : Nat} (s : z_Mr h b th al cg sv rs ac rj ro ad bf ln lz ip ty he er ea fa cm cn) : h.2 (b + 2) = some (.inl (0, 8, .inl (ro))) := s.2.2.2.2.2.2.2.2.2.1
theorem z_Mr.c3 {h : q_H} {b : Nat} {th : Int32} {al : Nat → Int32} {cg : Nat} {sv : Bool} {rs : Int32} {ac : Int32} {rj : Int32} {ro : Nat → Int32} {ad : Nat → Int32} {bf : Nat → Int32} {ln : Nat → Int32} {lz : Nat} {ip : Nat → Int32} {ty : Nat} {he : Nat} {er : Int32} {ea : Int32} {fa : Int32} {cm : Nat → Int32} {cn : Nat} (s : z_Mr h b th al cg sv rs ac rj ro ad bf ln lz ip ty he er ea fa cm cn) : h.2 (b + 3) = some (.inl (1, 256, .inl (ad))) := s.2.2.2.2.2.2.2.2.2.2.1
theorem z_Mr.c4 {h : q_H} {b : Nat} {th : Int32} {al : Nat → Int32} {cg : Nat} {sv : Bool} {rs : Int32} {ac : Int32} {rj : Int32} {ro : Nat → Int32} {ad : Nat → Int32} {bf : Nat → Int32} {ln : Nat → Int32} {lz : Nat} {ip : Nat → Int32} {ty : Nat} {he : Nat} {er : Int32} {ea : Int32} {fa : Int32} {cm : Nat → Int32} {cn : Nat} (s : z_Mr h b th al cg sv rs ac rj ro ad bf ln lz ip ty he er ea fa cm cn) : h.2 (b + 4) = some (.inl (0, 8, .inl (bf))) := s.2.2.2.2.2.2.2.2.2.2.2.1
theorem z_Mr.c5 {h : q_H} {b : Nat} {th : Int32} {al : Nat → Int32} {cg : Nat} {sv : Bool} {rs : Int32} {ac : Int32} {rj : Int32} {ro : Nat → Int32} {ad : Nat → Int32} {bf : Nat → Int32} {ln : Nat → Int32} {lz : Nat} {ip : Nat → Int32} {ty : Nat} {he : Nat} {er : Int32} {ea : Int32} {fa : Int32} {cm : Nat → Int32} {cn : Nat} (s : z_Mr h b th al cg sv rs ac rj ro ad bf ln lz ip ty he er ea fa cm cn) : h.2 (b + 5) = some (.inl (2, 160, .inl (ln))) := s.2.2.2.2.2.2.2.2.2.2.2.2.1
theorem z_Mr.c6 {h : q_H} {b : Nat} {th : Int32} {al : Nat → Int32} {cg : Nat} {sv : Bool} {rs : Int32} {ac : Int32} {rj : Int32} {ro : Nat → Int32} {ad : Nat → Int32} {bf : Nat → Int32} {ln : Nat → Int32} {lz : Nat} {ip : Nat → Int32} {ty : Nat} {he : Nat} {er : Int32} {ea : Int32} {fa : Int32} {cm : Nat → Int32} {cn : Nat} (s : z_Mr h b th al cg sv rs ac rj ro ad bf ln lz ip ty he er ea fa cm cn) : h.2 (b + 6) = some (.inl (2, 60, .inl (ip))) := s.2.2.2.2.2.2.2.2.2.2.2.2.2.1
theorem z_Mr.c7 {h : q_H} {b : Nat} {th : Int32} {al : Nat → Int32} {cg : Nat} {sv : Bool} {rs : Int32} {ac : Int32} {rj : Int32} {ro : Nat → Int32} {ad : Nat → Int32} {bf : Nat → Int32} {ln : Nat → Int32} {lz : Nat} {ip : Nat → Int32} {ty : Nat} {he : Nat} {er : Int32} {ea : Int32} {fa : Int32} {cm : Nat → Int32} {cn : Nat} (s : z_Mr h b th al cg sv rs ac rj ro ad bf ln lz ip ty he er ea fa cm cn) : h.2 (b + 7) = some (.inl (0, 183, .inl (cm))) := s.2.2.2.2.2.2.2.2.2.2.2.2.2.2
theorem z_Mr.keep {h1 : q_H} {b1 k1 : Nat} {h : q_H} {b : Nat} {th : Int32} {al : Nat → Int32} {cg : Nat} {sv : Bool} {rs : Int32} {ac : Int32} {rj : Int32} {ro : Nat → Int32} {ad : Nat → Int32} {bf : Nat → Int32} {ln : Nat → Int32} {lz : Nat} {ip : Nat → Int32} {ty : Nat} {he : Nat} {er : Int32} {ea : Int32} {fa : Int32} {cm : Nat → Int32} {cn : Nat} (s : z_Mr h b th al cg sv rs ac rj ro ad bf ln lz ip ty he er ea fa cm cn) (q : q_same h h1 b1 k1) (hx : b + 8 ≤ b1 ∨ b1 + k1 ≤ b) : z_Mr h1 b th al cg sv rs ac rj ro ad bf ln lz ip ty he er ea fa cm cn := by
  obtain ⟨w0, w1, w2, w3, w4, w5, w6, w7, w8, w9, w10, w11, w12, w13, w14⟩ := s
  exact ⟨w0, Nat.le_trans w1 q.1, w2, w3, w4, w5, w6, (q.2 _ (by omega) (by omega)).trans w7, (q.2 _ (by omega) (by omega)).trans w8, (q.2 _ (by omega) (by omega)).trans w9, (q.2 _ (by omega) (by omega)).trans w10, (q.2 _ (by omega) (by omega)).trans w11, (q.2 _ (by omega) (by omega)).trans w12, (q.2 _ (by omega) (by omega)).trans w13, (q.2 _ (by omega) (by omega)).trans w14⟩
theorem z_Mr.put0 {h : q_H} {b : Nat} {th : Int32} {al : Nat → Int32} {cg : Nat} {sv : Bool} {rs : Int32} {ac : Int32} {rj : Int32} {ro : Nat → Int32} {ad : Nat → Int32} {bf : Nat → Int32} {ln : Nat → Int32} {lz : Nat} {ip : Nat → Int32} {ty : Nat} {he : Nat} {er : Int32} {ea : Int32} {fa : Int32} {cm : Nat → Int32} {cn : Nat} (s : z_Mr h b th al cg sv rs ac rj ro ad bf ln lz ip ty he er ea fa cm cn) {th' : Int32} {cg' : Nat} {sv' : Bool} {rs' : Int32} {ac' : Int32} {rj' : Int32} {lz' : Nat} {ty' : Nat} {he' : Nat} {er' : Int32} {ea' : Int32} {fa' : Int32} {cn' : Nat} (hbcg : cg' ≤ 8) (hblz : lz' ≤ 160) (hbty : ty' ≤ 60) (hbhe : he' ≤ 60) (hbcn : cn' ≤ 61)  : z_Mr (q_set h (b) (.inr (12, [.int (th'), .ref (b + 1), .int (nI (cg')), .int (z_b (sv')), .int (rs'), .int (ac'), .int (rj'), .ref (b + 2), .ref (b + 3), .ref (b + 4), .ref (b + 5), .int (nI (lz')), .ref (b + 6), .int (nI (ty')), .int (nI (he')), .int (er'), .int (ea'), .int (fa'), .ref (b + 7), .int (nI (cn'))]))) b th' al cg' sv' rs' ac' rj' ro ad bf ln lz' ip ty' he' er' ea' fa' cm cn' := by
  obtain ⟨w0, w1, w2, w3, w4, w5, w6, w7, w8, w9, w10, w11, w12, w13, w14⟩ := s
  exact ⟨w0, w1, hbcg, hblz, hbty, hbhe, hbcn, q_set_eq, (q_set_ne (by omega)).trans w8, (q_set_ne (by omega)).trans w9, (q_set_ne (by omega)).trans w10, (q_set_ne (by omega)).trans w11, (q_set_ne (by omega)).trans w12, (q_set_ne (by omega)).trans w13, (q_set_ne (by omega)).trans w14⟩
theorem z_Mr.put1 {h : q_H} {b : Nat} {th : Int32} {al : Nat → Int32} {cg : Nat} {sv : Bool} {rs : Int32} {ac : Int32} {rj : Int32} {ro : Nat → Int32} {ad : Nat → Int32} {bf : Nat → Int32} {ln : Nat → Int32} {lz : Nat} {ip : Nat → Int32} {ty : Nat} {he : Nat} {er : Int32} {ea : Int32} {fa : Int32} {cm : Nat → Int32} {cn : Nat} (s : z_Mr h b th al cg sv rs ac rj ro ad bf ln lz ip ty he er ea fa cm cn) {al' : Nat → Int32}   : z_Mr (q_set h (b + 1) (.inl (0, 612, .inl (al')))) b th al' cg sv rs ac rj ro ad bf ln lz ip ty he er ea fa cm cn := by
  obtain ⟨w0, w1, w2, w3, w4, w5, w6, w7, w8, w9, w10, w11, w12, w13, w14⟩ := s
  exact ⟨w0, w1, w2, w3, w4, w5, w6, (q_set_ne (by omega)).trans w7, q_set_eq, (q_set_ne (by omega)).trans w9, (q_set_ne (by omega)).trans w10, (q_set_ne (by omega)).trans w11, (q_set_ne (by omega)).trans w12, (q_set_ne (by omega)).trans w13, (q_set_ne (by omega)).trans w14⟩
theorem z_Mr.put2 {h : q_H} {b : Nat} {th : Int32} {al : Nat → Int32} {cg : Nat} {sv : Bool} {rs : Int32} {ac : Int32} {rj : Int32} {ro : Nat → Int32} {ad : Nat → Int32} {bf : Nat → Int32} {ln : Nat → Int32} {lz : Nat} {ip : Nat → Int32} {ty : Nat} {he : Nat} {er : Int32} {ea : Int32} {fa : Int32} {cm : Nat → Int32} {cn : Nat} (s : z_Mr h b th al cg sv rs ac rj ro ad bf ln lz ip ty he er ea fa cm cn) {ro' : Nat → Int32}   : z_Mr (q_set h (b + 2) (.inl (0, 8, .inl (ro')))) b th al cg sv rs ac rj ro' ad bf ln lz ip ty he er ea fa cm cn := by
  obtain ⟨w0, w1, w2, w3, w4, w5, w6, w7, w8, w9, w10, w11, w12, w13, w14⟩ := s
  exact ⟨w0, w1, w2, w3, w4, w5, w6, (q_set_ne (by omega)).trans w7, (q_set_ne (by omega)).trans w8, q_set_eq, (q_set_ne (by omega)).trans w10, (q_set_ne (by omega)).trans w11, (q_set_ne (by omega)).trans w12, (q_set_ne (by omega)).trans w13, (q_set_ne (by omega)).trans w14⟩
theorem z_Mr.put3 {h : q_H} {b : Nat} {th : Int32} {al : Nat → Int32} {cg : Nat} {sv : Bool} {rs : Int32} {ac : Int32} {rj : Int32} {ro : Nat → Int32} {ad : Nat → Int32} {bf : Nat → Int32} {ln : Nat → Int32} {lz : Nat} {ip : Nat → Int32} {ty : Nat} {he : Nat} {er : Int32} {ea : Int32} {fa : Int32} {cm : Nat → Int32} {cn : Nat} (s : z_Mr h b th al cg sv rs ac rj ro ad bf ln lz ip ty he er ea fa cm cn) {ad' : Nat → Int32}   : z_Mr (q_set h (b + 3) (.inl (1, 256, .inl (ad')))) b th al cg sv rs ac rj ro ad' bf ln lz ip ty he er ea fa cm cn := by
  obtain ⟨w0, w1, w2, w3, w4, w5, w6, w7, w8, w9, w10, w11, w12, w13, w14⟩ := s
  exact ⟨w0, w1, w2, w3, w4, w5, w6, (q_set_ne (by omega)).trans w7, (q_set_ne (by omega)).trans w8, (q_set_ne (by omega)).trans w9, q_set_eq, (q_set_ne (by omega)).trans w11, (q_set_ne (by omega)).trans w12, (q_set_ne (by omega)).trans w13, (q_set_ne (by omega)).trans w14⟩
theorem z_Mr.put4 {h : q_H} {b : Nat} {th : Int32} {al : Nat → Int32} {cg : Nat} {sv : Bool} {rs : Int32} {ac : Int32} {rj : Int32} {ro : Nat → Int32} {ad : Nat → Int32} {bf : Nat → Int32} {ln : Nat → Int32} {lz : Nat} {ip : Nat → Int32} {ty : Nat} {he : Nat} {er : Int32} {ea : Int32} {fa : Int32} {cm : Nat → Int32} {cn : Nat} (s : z_Mr h b th al cg sv rs ac rj ro ad bf ln lz ip ty he er ea fa cm cn) {bf' : Nat → Int32}   : z_Mr (q_set h (b + 4) (.inl (0, 8, .inl (bf')))) b th al cg sv rs ac rj ro ad bf' ln lz ip ty he er ea fa cm cn := by
  obtain ⟨w0, w1, w2, w3, w4, w5, w6, w7, w8, w9, w10, w11, w12, w13, w14⟩ := s
  exact ⟨w0, w1, w2, w3, w4, w5, w6, (q_set_ne (by omega)).trans w7, (q_set_ne (by omega)).trans w8, (q_set_ne (by omega)).trans w9, (q_set_ne (by omega)).trans w10, q_set_eq, (q_set_ne (by omega)).trans w12, (q_set_ne (by omega)).trans w13, (q_set_ne (by omega)).trans w14⟩
theorem z_Mr.put5 {h : q_H} {b : Nat} {th : Int32} {al : Nat → Int32} {cg : Nat} {sv : Bool} {rs : Int32} {ac : Int32} {rj : Int32} {ro : Nat → Int32} {ad : Nat → Int32} {bf : Nat → Int32} {ln : Nat → Int32} {lz : Nat} {ip : Nat → Int32} {ty : Nat} {he : Nat} {er : Int32} {ea : Int32} {fa : Int32} {cm : Nat → Int32} {cn : Nat} (s : z_Mr h b th al cg sv rs ac rj ro ad bf ln lz ip ty he er ea fa cm cn) {ln' : Nat → Int32}   : z_Mr (q_set h (b + 5) (.inl (2, 160, .inl (ln')))) b th al cg sv rs ac rj ro ad bf ln' lz ip ty he er ea fa cm cn := by
  obtain ⟨w0, w1, w2, w3, w4, w5, w6, w7, w8, w9, w10, w11, w12, w13, w14⟩ := s
  exact ⟨w0, w1, w2, w3, w4, w5, w6, (q_set_ne (by omega)).trans w7, (q_set_ne (by omega)).trans w8, (q_set_ne (by omega)).trans w9, (q_set_ne (by omega)).trans w10, (q_set_ne (by omega)).trans w11, q_set_eq, (q_set_ne (by omega)).trans w13, (q_set_ne (by omega)).trans w14⟩
theorem z_Mr.put6 {h : q_H} {b : Nat} {th : Int32} {al : Nat → Int32} {cg : Nat} {sv : Bool} {rs : Int32} {ac : Int32} {rj : Int32} {ro : Nat → Int32} {ad : Nat → Int32} {bf : Nat → Int32} {ln : Nat → Int32} {lz : Nat} {ip : Nat → Int32} {ty : Nat} {he : Nat} {er : Int32} {ea : Int32} {fa : Int32} {cm : Nat → Int32} {cn : Nat} (s : z_Mr h b th al cg sv rs ac rj ro ad bf ln lz ip ty he er ea fa cm cn) {ip' : Nat → Int32}   : z_Mr (q_set h (b + 6) (.inl (2, 60, .inl (ip')))) b th al cg sv rs ac rj ro ad bf ln lz ip' ty he er ea fa cm cn := by
  obtain ⟨w0, w1, w2, w3, w4, w5, w6, w7, w8, w9, w10, w11, w12, w13, w14⟩ := s
  exact ⟨w0, w1, w2, w3, w4, w5, w6, (q_set_ne (by omega)).trans w7, (q_set_ne (by omega)).trans w8, (q_set_ne (by omega)).trans w9, (q_set_ne (by omega)).trans w10, (q_set_ne (by omega)).trans w11, (q_set_ne (by omega)).trans w12, q_set_eq, (q_set_ne (by omega)).trans w14⟩
theorem z_Mr.put7 {h : q_H} {b : Nat} {th : Int32} {al : Nat → Int32} {cg : Nat} {sv : Bool} {rs : Int32} {ac : Int32} {rj : Int32} {ro : Nat → Int32} {ad : Nat → Int32} {bf : Nat → Int32} {ln : Nat → Int32} {lz : Nat} {ip : Nat → Int32} {ty : Nat} {he : Nat} {er : Int32} {ea : Int32} {fa : Int32} {cm : Nat → Int32} {cn : Nat} (s : z_Mr h b th al cg sv rs ac rj ro ad bf ln lz ip ty he er ea fa cm cn) {cm' : Nat → Int32}   : z_Mr (q_set h (b + 7) (.inl (0, 183, .inl (cm')))) b th al cg sv rs ac rj ro ad bf ln lz ip ty he er ea fa cm' cn := by
  obtain ⟨w0, w1, w2, w3, w4, w5, w6, w7, w8, w9, w10, w11, w12, w13, w14⟩ := s
  exact ⟨w0, w1, w2, w3, w4, w5, w6, (q_set_ne (by omega)).trans w7, (q_set_ne (by omega)).trans w8, (q_set_ne (by omega)).trans w9, (q_set_ne (by omega)).trans w10, (q_set_ne (by omega)).trans w11, (q_set_ne (by omega)).trans w12, (q_set_ne (by omega)).trans w13, q_set_eq⟩
def z_Mo (h : q_H) (b : Nat) (th : Int32) (al : Nat → Int32) (cg : Nat) (sv : Bool) (rs : Int32) (ac : Int32) (rj : Int32) (ro : Nat → Int32) (ad : Nat → Int32) (bf : Nat → Int32) (ln : Nat → Int32) (lz : Nat) (ip : Nat → Int32) (ty : Nat) (he : Nat) (er : Int32) (ea : Int32) (fa : Int32) (cm : Nat → Int32) (cn : Nat) (n : Nat) (mn : Nat) : Prop :=
  q_R0 ≤ b ∧
  b + 8 ≤ h.1 ∧
  cg ≤ 8 ∧
  lz ≤ 160 ∧
  ty ≤ 60 ∧
  he ≤ 60 ∧
  cn ≤ 61 ∧
  n ≤ 8 ∧
  mn ≤ 12 ∧
  al 0 = nI n ∧
  al 3 = nI mn ∧
  h.2 (b) = some (.inr (12, [.int (th), .ref (b + 1), .int (nI (cg)), .int (z_b (sv)), .int (rs), .int (ac), .int (rj), .ref (b + 2), .ref (b + 3), .ref (b + 4), .ref (b + 5), .int (nI (lz)), .ref (b + 6), .int (nI (ty)), .int (nI (he)), .int (er), .int (ea), .int (fa), .ref (b + 7), .int (nI (cn))])) ∧
  h.2 (b + 1) = some (.inl (0, 612, .inl (al))) ∧
  h.2 (b + 2) = some (.inl (0, 8, .inl (ro))) ∧
  h.2 (b + 3) = some (.inl (1, 256, .inl (ad))) ∧
  h.2 (b + 4) = some (.inl (0, 8, .inl (bf))) ∧
  h.2 (b + 5) = some (.inl (2, 160, .inl (ln))) ∧
  h.2 (b + 6) = some (.inl (2, 60, .inl (ip))) ∧
  h.2 (b + 7) = some (.inl (0, 183, .inl (cm)))
theorem z_Mo.r0 {h : q_H} {b : Nat} {th : Int32} {al : Nat → Int32} {cg : Nat} {sv : Bool} {rs : Int32} {ac : Int32} {rj : Int32} {ro : Nat → Int32} {ad : Nat → Int32} {bf : Nat → Int32} {ln : Nat → Int32} {lz : Nat} {ip : Nat → Int32} {ty : Nat} {he : Nat} {er : Int32} {ea : Int32} {fa : Int32} {cm : Nat → Int32} {cn : Nat} {n : Nat} {mn : Nat} (s : z_Mo h b th al cg sv rs ac rj ro ad bf ln lz ip ty he er ea fa cm cn n mn) : q_R0 ≤ b := s.1
theorem z_Mo.s0 {h : q_H} {b : Nat} {th : Int32} {al : Nat → Int32} {cg : Nat} {sv : Bool} {rs : Int32} {ac : Int32} {rj : Int32} {ro : Nat → Int32} {ad : Nat → Int32} {bf : Nat → Int32} {ln : Nat → Int32} {lz : Nat} {ip : Nat → Int32} {ty : Nat} {he : Nat} {er : Int32} {ea : Int32} {fa : Int32} {cm : Nat → Int32} {cn : Nat} {n : Nat} {mn : Nat} (s : z_Mo h b th al cg sv rs ac rj ro ad bf ln lz ip ty he er ea fa cm cn n mn) : b + 8 ≤ h.1 := s.2.1
theorem z_Mo.bcg {h : q_H} {b : Nat} {th : Int32} {al : Nat → Int32} {cg : Nat} {sv : Bool} {rs : Int32} {ac : Int32} {rj : Int32} {ro : Nat → Int32} {ad : Nat → Int32} {bf : Nat → Int32} {ln : Nat → Int32} {lz : Nat} {ip : Nat → Int32} {ty : Nat} {he : Nat} {er : Int32} {ea : Int32} {fa : Int32} {cm : Nat → Int32} {cn : Nat} {n : Nat} {mn : Nat} (s : z_Mo h b th al cg sv rs ac rj ro ad bf ln lz ip ty he er ea fa cm cn n mn) : cg ≤ 8 := s.2.2.1
theorem z_Mo.blz {h : q_H} {b : Nat} {th : Int32} {al : Nat → Int32} {cg : Nat} {sv : Bool} {rs : Int32} {ac : Int32} {rj : Int32} {ro : Nat → Int32} {ad : Nat → Int32} {bf : Nat → Int32} {ln : Nat → Int32} {lz : Nat} {ip : Nat → Int32} {ty : Nat} {he : Nat} {er : Int32} {ea : Int32} {fa : Int32} {cm : Nat → Int32} {cn : Nat} {n : Nat} {mn : Nat} (s : z_Mo h b th al cg sv rs ac rj ro ad bf ln lz ip ty he er ea fa cm cn n mn) : lz ≤ 160 := s.2.2.2.1
theorem z_Mo.bty {h : q_H} {b : Nat} {th : Int32} {al : Nat → Int32} {cg : Nat} {sv : Bool} {rs : Int32} {ac : Int32} {rj : Int32} {ro : Nat → Int32} {ad : Nat → Int32} {bf : Nat → Int32} {ln : Nat → Int32} {lz : Nat} {ip : Nat → Int32} {ty : Nat} {he : Nat} {er : Int32} {ea : Int32} {fa : Int32} {cm : Nat → Int32} {cn : Nat} {n : Nat} {mn : Nat} (s : z_Mo h b th al cg sv rs ac rj ro ad bf ln lz ip ty he er ea fa cm cn n mn) : ty ≤ 60 := s.2.2.2.2.1
theorem z_Mo.bhe {h : q_H} {b : Nat} {th : Int32} {al : Nat → Int32} {cg : Nat} {sv : Bool} {rs : Int32} {ac : Int32} {rj : Int32} {ro : Nat → Int32} {ad : Nat → Int32} {bf : Nat → Int32} {ln : Nat → Int32} {lz : Nat} {ip : Nat → Int32} {ty : Nat} {he : Nat} {er : Int32} {ea : Int32} {fa : Int32} {cm : Nat → Int32} {cn : Nat} {n : Nat} {mn : Nat} (s : z_Mo h b th al cg sv rs ac rj ro ad bf ln lz ip ty he er ea fa cm cn n mn) : he ≤ 60 := s.2.2.2.2.2.1
theorem z_Mo.bcn {h : q_H} {b : Nat} {th : Int32} {al : Nat → Int32} {cg : Nat} {sv : Bool} {rs : Int32} {ac : Int32} {rj : Int32} {ro : Nat → Int32} {ad : Nat → Int32} {bf : Nat → Int32} {ln : Nat → Int32} {lz : Nat} {ip : Nat → Int32} {ty : Nat} {he : Nat} {er : Int32} {ea : Int32} {fa : Int32} {cm : Nat → Int32} {cn : Nat} {n : Nat} {mn : Nat} (s : z_Mo h b th al cg sv rs ac rj ro ad bf ln lz ip ty he er ea fa cm cn n mn) : cn ≤ 61 := s.2.2.2.2.2.2.1
theorem z_Mo.bn {h : q_H} {b : Nat} {th : Int32} {al : Nat → Int32} {cg : Nat} {sv : Bool} {rs : Int32} {ac : Int32} {rj : Int32} {ro : Nat → Int32} {ad : Nat → Int32} {bf : Nat → Int32} {ln : Nat → Int32} {lz : Nat} {ip : Nat → Int32} {ty : Nat} {he : Nat} {er : Int32} {ea : Int32} {fa : Int32} {cm : Nat → Int32} {cn : Nat} {n : Nat} {mn : Nat} (s : z_Mo h b th al cg sv rs ac rj ro ad bf ln lz ip ty he er ea fa cm cn n mn) : n ≤ 8 := s.2.2.2.2.2.2.2.1
theorem z_Mo.bmn {h : q_H} {b : Nat} {th : Int32} {al : Nat → Int32} {cg : Nat} {sv : Bool} {rs : Int32} {ac : Int32} {rj : Int32} {ro : Nat → Int32} {ad : Nat → Int32} {bf : Nat → Int32} {ln : Nat → Int32} {lz : Nat} {ip : Nat → Int32} {ty : Nat} {he : Nat} {er : Int32} {ea : Int32} {fa : Int32} {cm : Nat → Int32} {cn : Nat} {n : Nat} {mn : Nat} (s : z_Mo h b th al cg sv rs ac rj ro ad bf ln lz ip ty he er ea fa cm cn n mn) : mn ≤ 12 := s.2.2.2.2.2.2.2.2.1
theorem z_Mo.en {h : q_H} {b : Nat} {th : Int32} {al : Nat → Int32} {cg : Nat} {sv : Bool} {rs : Int32} {ac : Int32} {rj : Int32} {ro : Nat → Int32} {ad : Nat → Int32} {bf : Nat → Int32} {ln : Nat → Int32} {lz : Nat} {ip : Nat → Int32} {ty : Nat} {he : Nat} {er : Int32} {ea : Int32} {fa : Int32} {cm : Nat → Int32} {cn : Nat} {n : Nat} {mn : Nat} (s : z_Mo h b th al cg sv rs ac rj ro ad bf ln lz ip ty he er ea fa cm cn n mn) : al 0 = nI n := s.2.2.2.2.2.2.2.2.2.1
theorem z_Mo.emn {h : q_H} {b : Nat} {th : Int32} {al : Nat → Int32} {cg : Nat} {sv : Bool} {rs : Int32} {ac : Int32} {rj : Int32} {ro : Nat → Int32} {ad : Nat → Int32} {bf : Nat → Int32} {ln : Nat → Int32} {lz : Nat} {ip : Nat → Int32} {ty : Nat} {he : Nat} {er : Int32} {ea : Int32} {fa : Int32} {cm : Nat → Int32} {cn : Nat} {n : Nat} {mn : Nat} (s : z_Mo h b th al cg sv rs ac rj ro ad bf ln lz ip ty he er ea fa cm cn n mn) : al 3 = nI mn := s.2.2.2.2.2.2.2.2.2.2.1
theorem z_Mo.c0 {h : q_H} {b : Nat} {th : Int32} {al : Nat → Int32} {cg : Nat} {sv : Bool} {rs : Int32} {ac : Int32} {rj : Int32} {ro : Nat → Int32} {ad : Nat → Int32} {bf : Nat → Int32} {ln : Nat → Int32} {lz : Nat} {ip : Nat → Int32} {ty : Nat} {he : Nat} {er : Int32} {ea : Int32} {fa : Int32} {cm : Nat → Int32} {cn : Nat} {n : Nat} {mn : Nat} (s : z_Mo h b th al cg sv rs ac rj ro ad bf ln lz ip ty he er ea fa cm cn n mn) : h.2 (b) = some (.inr (12, [.int (th), .ref (b + 1), .int (nI (cg)), .int (z_b (sv)), .int (rs), .int (ac), .int (rj), .ref (b + 2), .ref (b + 3), .ref (b + 4), .ref (b + 5), .int (nI (lz)), .ref (b + 6), .int (nI (ty)), .int (nI (he)), .int (er), .int (ea), .int (fa), .ref (b + 7), .int (nI (cn))])) := s.2.2.2.2.2.2.2.2.2.2.2.1
theorem z_Mo.c1 {h : q_H} {b : Nat} {th : Int32} {al : Nat → Int32} {cg : Nat} {sv : Bool} {rs : Int32} {ac : Int32} {rj : Int32} {ro : Nat → Int32} {ad : Nat → Int32} {bf : Nat → Int32} {ln : Nat → Int32} {lz : Nat} {ip : Nat → Int32} {ty : Nat} {he : Nat} {er : Int32} {ea : Int32} {fa : Int32} {cm : Nat → Int32} {cn : Nat} {n : Nat} {mn : Nat} (s : z_Mo h b th al cg sv rs ac rj ro ad bf ln lz ip ty he er ea fa cm cn n mn) : h.2 (b + 1) = some (.inl (0, 612, .inl (al))) := s.2.2.2.2.2.2.2.2.2.2.2.2.1
theorem z_Mo.c2 {h : q_H} {b : Nat} {th : Int32} {al : Nat → Int32} {cg : Nat} {sv : Bool} {rs : Int32} {ac : Int32} {rj : Int32} {ro : Nat → Int32} {ad : Nat → Int32} {bf : Nat → Int32} {ln : Nat → Int32} {lz : Nat} {ip : Nat → Int32} {ty : Nat} {he : Nat} {er : Int32} {ea : Int32} {fa : Int32} {cm : Nat → Int32} {cn : Nat} {n : Nat} {mn : Nat} (s : z_Mo h b th al cg sv rs ac rj ro ad bf ln lz ip ty he er ea fa cm cn n mn) : h.2 (b + 2) = some (.inl (0, 8, .inl (ro))) := s.2.2.2.2.2.2.2.2.2.2.2.2.2.1
theorem z_Mo.c3 {h : q_H} {b : Nat} {th : Int32} {al : Nat → Int32} {cg : Nat} {sv : Bool} {rs : Int32} {ac : Int32} {rj : Int32} {ro : Nat → Int32} {ad : Nat → Int32} {bf : Nat → Int32} {ln : Nat → Int32} {lz : Nat} {ip : Nat → Int32} {ty : Nat} {he : Nat} {er : Int32} {ea : Int32} {fa : Int32} {cm : Nat → Int32} {cn : Nat} {n : Nat} {mn : Nat} (s : z_Mo h b th al cg sv rs ac rj ro ad bf ln lz ip ty he er ea fa cm cn n mn) : h.2 (b + 3) = some (.inl (1, 256, .inl (ad))) := s.2.2.2.2.2.2.2.2.2.2.2.2.2.2.1
theorem z_Mo.c4 {h : q_H} {b : Nat} {th : Int32} {al : Nat → Int32} {cg : Nat} {sv : Bool} {rs : Int32} {ac : Int32} {rj : Int32} {ro : Nat → Int32} {ad : Nat → Int32} {bf : Nat → Int32} {ln : Nat → Int32} {lz : Nat} {ip : Nat → Int32} {ty : Nat} {he : Nat} {er : Int32} {ea : Int32} {fa : Int32} {cm : Nat → Int32} {cn : Nat} {n : Nat} {mn : Nat} (s : z_Mo h b th al cg sv rs ac rj ro ad bf ln lz ip ty he er ea fa cm cn n mn) : h.2 (b + 4) = some (.inl (0, 8, .inl (bf))) := s.2.2.2.2.2.2.2.2.2.2.2.2.2.2.2.1
theorem z_Mo.c5 {h : q_H} {b : Nat} {th : Int32} {al : Nat → Int32} {cg : Nat} {sv : Bool} {rs : Int32} {ac : Int32} {rj : Int32} {ro : Nat → Int32} {ad : Nat → Int32} {bf : Nat → Int32} {ln : Nat → Int32} {lz : Nat} {ip : Nat → Int32} {ty : Nat} {he : Nat} {er : Int32} {ea : Int32} {fa : Int32} {cm : Nat → Int32} {cn : Nat} {n : Nat} {mn : Nat} (s : z_Mo h b th al cg sv rs ac rj ro ad bf ln lz ip ty he er ea fa cm cn n mn) : h.2 (b + 5) = some (.inl (2, 160, .inl (ln))) := s.2.2.2.2.2.2.2.2.2.2.2.2.2.2.2.2.1
theorem z_Mo.c6 {h : q_H} {b : Nat} {th : Int32} {al : Nat → Int32} {cg : Nat} {sv : Bool} {rs : Int32} {ac : Int32} {rj : Int32} {ro : Nat → Int32} {ad : Nat → Int32} {bf : Nat → Int32} {ln : Nat → Int32} {lz : Nat} {ip : Nat → Int32} {ty : Nat} {he : Nat} {er : Int32} {ea : Int32} {fa : Int32} {cm : Nat → Int32} {cn : Nat} {n : Nat} {mn : Nat} (s : z_Mo h b th al cg sv rs ac rj ro ad bf ln lz ip ty he er ea fa cm cn n mn) : h.2 (b + 6) = some (.inl (2, 60, .inl (ip))) := s.2.2.2.2.2.2.2.2.2.2.2.2.2.2.2.2.2.1
theorem z_Mo.c7 {h : q_H} {b : Nat} {th : Int32} {al : Nat → Int32} {cg : Nat} {sv : Bool} {rs : Int32} {ac : Int32} {rj : Int32} {ro : Nat → Int32} {ad : Nat → Int32} {bf : Nat → Int32} {ln : Nat → Int32} {lz : Nat} {ip : Nat → Int32} {ty : Nat} {he : Nat} {er : Int32} {ea : Int32} {fa : Int32} {cm : Nat → Int32} {cn : Nat} {n : Nat} {mn : Nat} (s : z_Mo h b th al cg sv rs ac rj ro ad bf ln lz ip ty he er ea fa cm cn n mn) : h.2 (b + 7) = some (.inl (0, 183, .inl (cm))) := s.2.2.2.2.2.2.2.2.2.2.2.2.2.2.2.2.2.2
theorem z_Mo.keep {h1 : q_H} {b1 k1 : Nat} {h : q_H} {b : Nat} {th : Int32} {al : Nat → Int32} {cg : Nat} {sv : Bool} {rs : Int32} {ac : Int32} {rj : Int32} {ro : Nat → Int32} {ad : Nat → Int32} {bf : Nat → Int32} {ln : Nat → Int32} {lz : Nat} {ip : Nat → Int32} {ty : Nat} {he : Nat} {er : Int32} {ea : Int32} {fa : Int32} {cm : Nat → Int32} {cn : Nat} {n : Nat} {mn : Nat} (s : z_Mo h b th al cg sv rs ac rj ro ad bf ln lz ip ty he er ea fa cm cn n mn) (q : q_same h h1 b1 k1) (hx : b + 8 ≤ b1 ∨ b1 + k1 ≤ b) : z_Mo h1 b th al cg sv rs ac rj ro ad bf ln lz ip ty he er ea fa cm cn n mn := by
  obtain ⟨w0, w1, w2, w3, w4, w5, w6, w7, w8, w9, w10, w11, w12, w13, w14, w15, w16, w17, w18⟩ := s
  exact ⟨w0, Nat.le_trans w1 q.1, w2, w3, w4, w5, w6, w7, w8, w9, w10, (q.2 _ (by omega) (by omega)).trans w11, (q.2 _ (by omega) (by omega)).trans w12, (q.2 _ (by omega) (by omega)).trans w13, (q.2 _ (by omega) (by omega)).trans w14, (q.2 _ (by omega) (by omega)).trans w15, (q.2 _ (by omega) (by omega)).trans w16, (q.2 _ (by omega) (by omega)).trans w17, (q.2 _ (by omega) (by omega)).trans w18⟩
theorem z_Mo.put0 {h : q_H} {b : Nat} {th : Int32} {al : Nat → Int32} {cg : Nat} {sv : Bool} {rs : Int32} {ac : Int32} {rj : Int32} {ro : Nat → Int32} {ad : Nat → Int32} {bf : Nat → Int32} {ln : Nat → Int32} {lz : Nat} {ip : Nat → Int32} {ty : Nat} {he : Nat} {er : Int32} {ea : Int32} {fa : Int32} {cm : Nat → Int32} {cn : Nat} {n : Nat} {mn : Nat} (s : z_Mo h b th al cg sv rs ac rj ro ad bf ln lz ip ty he er ea fa cm cn n mn) {th' : Int32} {cg' : Nat} {sv' : Bool} {rs' : Int32} {ac' : Int32} {rj' : Int32} {lz' : Nat} {ty' : Nat} {he' : Nat} {er' : Int32} {ea' : Int32} {fa' : Int32} {cn' : Nat} (hbcg : cg' ≤ 8) (hblz : lz' ≤ 160) (hbty : ty' ≤ 60) (hbhe : he' ≤ 60) (hbcn : cn' ≤ 61)  : z_Mo (q_set h (b) (.inr (12, [.int (th'), .ref (b + 1), .int (nI (cg')), .int (z_b (sv')), .int (rs'), .int (ac'), .int (rj'), .ref (b + 2), .ref (b + 3), .ref (b + 4), .ref (b + 5), .int (nI (lz')), .ref (b + 6), .int (nI (ty')), .int (nI (he')), .int (er'), .int (ea'), .int (fa'), .ref (b + 7), .int (nI (cn'))]))) b th' al cg' sv' rs' ac' rj' ro ad bf ln lz' ip ty' he' er' ea' fa' cm cn' n mn := by
  obtain ⟨w0, w1, w2, w3, w4, w5, w6, w7, w8, w9, w10, w11, w12, w13, w14, w15, w16, w17, w18⟩ := s
  exact ⟨w0, w1, hbcg, hblz, hbty, hbhe, hbcn, w7, w8, w9, w10, q_set_eq, (q_set_ne (by omega)).trans w12, (q_set_ne (by omega)).trans w13, (q_set_ne (by omega)).trans w14, (q_set_ne (by omega)).trans w15, (q_set_ne (by omega)).trans w16, (q_set_ne (by omega)).trans w17, (q_set_ne (by omega)).trans w18⟩
theorem z_Mo.put1 {h : q_H} {b : Nat} {th : Int32} {al : Nat → Int32} {cg : Nat} {sv : Bool} {rs : Int32} {ac : Int32} {rj : Int32} {ro : Nat → Int32} {ad : Nat → Int32} {bf : Nat → Int32} {ln : Nat → Int32} {lz : Nat} {ip : Nat → Int32} {ty : Nat} {he : Nat} {er : Int32} {ea : Int32} {fa : Int32} {cm : Nat → Int32} {cn : Nat} {n : Nat} {mn : Nat} (s : z_Mo h b th al cg sv rs ac rj ro ad bf ln lz ip ty he er ea fa cm cn n mn) {al' : Nat → Int32} {n' : Nat} {mn' : Nat} (hbn : n' ≤ 8) (hbmn : mn' ≤ 12) (hen : al' 0 = nI n') (hemn : al' 3 = nI mn') : z_Mo (q_set h (b + 1) (.inl (0, 612, .inl (al')))) b th al' cg sv rs ac rj ro ad bf ln lz ip ty he er ea fa cm cn n' mn' := by
  obtain ⟨w0, w1, w2, w3, w4, w5, w6, w7, w8, w9, w10, w11, w12, w13, w14, w15, w16, w17, w18⟩ := s
  exact ⟨w0, w1, w2, w3, w4, w5, w6, hbn, hbmn, hen, hemn, (q_set_ne (by omega)).trans w11, q_set_eq, (q_set_ne (by omega)).trans w13, (q_set_ne (by omega)).trans w14, (q_set_ne (by omega)).trans w15, (q_set_ne (by omega)).trans w16, (q_set_ne (by omega)).trans w17, (q_set_ne (by omega)).trans w18⟩
theorem z_Mo.put2 {h : q_H} {b : Nat} {th : Int32} {al : Nat → Int32} {cg : Nat} {sv : Bool} {rs : Int32} {ac : Int32} {rj : Int32} {ro : Nat → Int32} {ad : Nat → Int32} {bf : Nat → Int32} {ln : Nat → Int32} {lz : Nat} {ip : Nat → Int32} {ty : Nat} {he : Nat} {er : Int32} {ea : Int32} {fa : Int32} {cm : Nat → Int32} {cn : Nat} {n : Nat} {mn : Nat} (s : z_Mo h b th al cg sv rs ac rj ro ad bf ln lz ip ty he er ea fa cm cn n mn) {ro' : Nat → Int32}   : z_Mo (q_set h (b + 2) (.inl (0, 8, .inl (ro')))) b th al cg sv rs ac rj ro' ad bf ln lz ip ty he er ea fa cm cn n mn := by
  obtain ⟨w0, w1, w2, w3, w4, w5, w6, w7, w8, w9, w10, w11, w12, w13, w14, w15, w16, w17, w18⟩ := s
  exact ⟨w0, w1, w2, w3, w4, w5, w6, w7, w8, w9, w10, (q_set_ne (by omega)).trans w11, (q_set_ne (by omega)).trans w12, q_set_eq, (q_set_ne (by omega)).trans w14, (q_set_ne (by omega)).trans w15, (q_set_ne (by omega)).trans w16, (q_set_ne (by omega)).trans w17, (q_set_ne (by omega)).trans w18⟩
theorem z_Mo.put3 {h : q_H} {b : Nat} {th : Int32} {al : Nat → Int32} {cg : Nat} {sv : Bool} {rs : Int32} {ac : Int32} {rj : Int32} {ro : Nat → Int32} {ad : Nat → Int32} {bf : Nat → Int32} {ln : Nat → Int32} {lz : Nat} {ip : Nat → Int32} {ty : Nat} {he : Nat} {er : Int32} {ea : Int32} {fa : Int32} {cm : Nat → Int32} {cn : Nat} {n : Nat} {mn : Nat} (s : z_Mo h b th al cg sv rs ac rj ro ad bf ln lz ip ty he er ea fa cm cn n mn) {ad' : Nat → Int32}   : z_Mo (q_set h (b + 3) (.inl (1, 256, .inl (ad')))) b th al cg sv rs ac rj ro ad' bf ln lz ip ty he er ea fa cm cn n mn := by
  obtain ⟨w0, w1, w2, w3, w4, w5, w6, w7, w8, w9, w10, w11, w12, w13, w14, w15, w16, w17, w18⟩ := s
  exact ⟨w0, w1, w2, w3, w4, w5, w6, w7, w8, w9, w10, (q_set_ne (by omega)).trans w11, (q_set_ne (by omega)).trans w12, (q_set_ne (by omega)).trans w13, q_set_eq, (q_set_ne (by omega)).trans w15, (q_set_ne (by omega)).trans w16, (q_set_ne (by omega)).trans w17, (q_set_ne (by omega)).trans w18⟩
theorem z_Mo.put4 {h : q_H} {b : Nat} {th : Int32} {al : Nat → Int32} {cg : Nat} {sv : Bool} {rs : Int32} {ac : Int32} {rj : Int32} {ro : Nat → Int32} {ad : Nat → Int32} {bf : Nat → Int32} {ln : Nat → Int32} {lz : Nat} {ip : Nat → Int32} {ty : Nat} {he : Nat} {er : Int32} {ea : Int32} {fa : Int32} {cm : Nat → Int32} {cn : Nat} {n : Nat} {mn : Nat} (s : z_Mo h b th al cg sv rs ac rj ro ad bf ln lz ip ty he er ea fa cm cn n mn) {bf' : Nat → Int32}   : z_Mo (q_set h (b + 4) (.inl (0, 8, .inl (bf')))) b th al cg sv rs ac rj ro ad bf' ln lz ip ty he er ea fa cm cn n mn := by
  obtain ⟨w0, w1, w2, w3, w4, w5, w6, w7, w8, w9, w10, w11, w12, w13, w14, w15, w16, w17, w18⟩ := s
  exact ⟨w0, w1, w2, w3, w4, w5, w6, w7, w8, w9, w10, (q_set_ne (by omega)).trans w11, (q_set_ne (by omega)).trans w12, (q_set_ne (by omega)).trans w13, (q_set_ne (by omega)).trans w14, q_set_eq, (q_set_ne (by omega)).trans w16, (q_set_ne (by omega)).trans w17, (q_set_ne (by omega)).trans w18⟩
theorem z_Mo.put5 {h : q_H} {b : Nat} {th : Int32} {al : Nat → Int32} {cg : Nat} {sv : Bool} {rs : Int32} {ac : Int32} {rj : Int32} {ro : Nat → Int32} {ad : Nat → Int32} {bf : Nat → Int32} {ln : Nat → Int32} {lz : Nat} {ip : Nat → Int32} {ty : Nat} {he : Nat} {er : Int32} {ea : Int32} {fa : Int32} {cm : Nat → Int32} {cn : Nat} {n : Nat} {mn : Nat} (s : z_Mo h b th al cg sv rs ac rj ro ad bf ln lz ip ty he er ea fa cm cn n mn) {ln' : Nat → Int32}   : z_Mo (q_set h (b + 5) (.inl (2, 160, .inl (ln')))) b th al cg sv rs ac rj ro ad bf ln' lz ip ty he er ea fa cm cn n mn := by
  obtain ⟨w0, w1, w2, w3, w4, w5, w6, w7, w8, w9, w10, w11, w12, w13, w14, w15, w16, w17, w18⟩ := s
  exact ⟨w0, w1, w2, w3, w4, w5, w6, w7, w8, w9, w10, (q_set_ne (by omega)).trans w11, (q_set_ne (by omega)).trans w12, (q_set_ne (by omega)).trans w13, (q_set_ne (by omega)).trans w14, (q_set_ne (by omega)).trans w15, q_set_eq, (q_set_ne (by omega)).trans w17, (q_set_ne (by omega)).trans w18⟩
theorem z_Mo.put6 {h : q_H} {b : Nat} {th : Int32} {al : Nat → Int32} {cg : Nat} {sv : Bool} {rs : Int32} {ac : Int32} {rj : Int32} {ro : Nat → Int32} {ad : Nat → Int32} {bf : Nat → Int32} {ln : Nat → Int32} {lz : Nat} {ip : Nat → Int32} {ty : Nat} {he : Nat} {er : Int32} {ea : Int32} {fa : Int32} {cm : Nat → Int32} {cn : Nat} {n : Nat} {mn : Nat} (s : z_Mo h b th al cg sv rs ac rj ro ad bf ln lz ip ty he er ea fa cm cn n mn) {ip' : Nat → Int32}   : z_Mo (q_set h (b + 6) (.inl (2, 60, .inl (ip')))) b th al cg sv rs ac rj ro ad bf ln lz ip' ty he er ea fa cm cn n mn := by
  obtain ⟨w0, w1, w2, w3, w4, w5, w6, w7, w8, w9, w10, w11, w12, w13, w14, w15, w16, w17, w18⟩ := s
  exact ⟨w0, w1, w2, w3, w4, w5, w6, w7, w8, w9, w10, (q_set_ne (by omega)).trans w11, (q_set_ne (by omega)).trans w12, (q_set_ne (by omega)).trans w13, (q_set_ne (by omega)).trans w14, (q_set_ne (by omega)).trans w15, (q_set_ne (by omega)).trans w16, q_set_eq, (q_set_ne (by omega)).trans w18⟩
theorem z_Mo.put7 {h : q_H} {b : Nat} {th : Int32} {al : Nat → Int32} {cg : Nat} {sv : Bool} {rs : Int32} {ac : Int32} {rj : Int32} {ro : Nat → Int32} {ad : Nat → Int32} {bf : Nat → Int32} {ln : Nat → Int32} {lz : Nat} {ip : Nat → Int32} {ty : Nat} {he : Nat} {er : Int32} {ea : Int32} {fa : Int32} {cm : Nat → Int32} {cn : Nat} {n : Nat} {mn : Nat} (s : z_Mo h b th al cg sv rs ac rj ro ad bf ln lz ip ty he er ea fa cm cn n mn) {cm' : Nat → Int32}   : z_Mo (q_set h (b + 7) (.inl (0, 183, .inl (cm')))) b th al cg sv rs ac rj ro ad bf ln lz ip ty he er ea fa cm' cn n mn := by
  obtain ⟨w0, w1, w2, w3, w4, w5, w6, w7, w8, w9, w10, w11, w12, w13, w14, w15, w16, w17, w18⟩ := s
  exact ⟨w0, w1, w2, w3, w4, w5, w6, w7, w8, w9, w10, (q_set_ne (by omega)).trans w11, (q_set_ne (by omega)).trans w12, (q_set_ne (by omega)).trans w13, (q_set_ne (by omega)).trans w14, (q_set_ne (by omega)).trans w15, (q_set_ne (by omega)).trans w16, (q_set_ne (by omega)).trans w17, q_set_eq⟩
theorem z_Mo.raw {h : q_H} {b : Nat} {th : Int32} {al : Nat → Int32} {cg : Nat} {sv : Bool} {rs : Int32} {ac : Int32} {rj : Int32} {ro : Nat → Int32} {ad : Nat → Int32} {bf : Nat → Int32} {ln : Nat → Int32} {lz : Nat} {ip : Nat → Int32} {ty : Nat} {he : Nat} {er : Int32} {ea : Int32} {fa : Int32} {cm : Nat → Int32} {cn : Nat} {n : Nat} {mn : Nat} (s : z_Mo h b th al cg sv rs ac rj ro ad bf ln lz ip ty he er ea fa cm cn n mn) : z_Mr h b th al cg sv rs ac rj ro ad bf ln lz ip ty he er ea fa cm cn := by
  obtain ⟨w0, w1, a1, a2, a3, a4, a5, b1, b2, d1, d2, c0, c1, c2, c3, c4, c5, c6, c7⟩ := s
  exact ⟨w0, w1, a1, a2, a3, a4, a5, c0, c1, c2, c3, c4, c5, c6, c7⟩
theorem z_Mr.mo {h : q_H} {b : Nat} {th : Int32} {al : Nat → Int32} {cg : Nat} {sv : Bool} {rs : Int32} {ac : Int32} {rj : Int32} {ro : Nat → Int32} {ad : Nat → Int32} {bf : Nat → Int32} {ln : Nat → Int32} {lz : Nat} {ip : Nat → Int32} {ty : Nat} {he : Nat} {er : Int32} {ea : Int32} {fa : Int32} {cm : Nat → Int32} {cn : Nat} {n mn : Nat} (s : z_Mr h b th al cg sv rs ac rj ro ad bf ln lz ip ty he er ea fa cm cn) (e0 : al 0 = nI n) (hn : n ≤ 8) (e3 : al 3 = nI mn) (hm : mn ≤ 12) : z_Mo h b th al cg sv rs ac rj ro ad bf ln lz ip ty he er ea fa cm cn n mn := by
  obtain ⟨w0, w1, a1, a2, a3, a4, a5, c0, c1, c2, c3, c4, c5, c6, c7⟩ := s
  exact ⟨w0, w1, a1, a2, a3, a4, a5, hn, hm, e0, e3, c0, c1, c2, c3, c4, c5, c6, c7⟩
/-- row f of the table copied to row t -/
def x_cp (al : Nat → Int32) (f t : Nat) : Nat → Int32 := fun i => if 51 * t ≤ i ∧ i < 51 * t + 51 then al (51 * f + (i - 51 * t)) else al i
theorem x_cp_ne {al : Nat → Int32} {f t i : Nat} (h : i < 51 * t ∨ 51 * t + 51 ≤ i) : x_cp al f t i = al i := if_neg (by omega)
theorem x_cp_in {al : Nat → Int32} {f t k : Nat} (h : k < 51) : x_cp al f t (51 * t + k) = al (51 * f + k) := by
  unfold x_cp
  rw [if_pos (by omega), Nat.add_sub_cancel_left]
def x_mo_copies_2 (p : Nat) (q : Nat) : Nat → Nat → (Nat → Int32) → (Nat → Int32)
  | 0, _, al_2 => al_2
  | r + 1, k, al_2 => x_mo_copies_2 p q r (k + 1) (upd al_2 (51 * q + k) (al_2 (51 * p + k)))
set_option maxRecDepth 100000 in
set_option maxHeartbeats 8000000 in
theorem l_mo_copies_2 {g : q_G} {h : q_H} {d mc ms kc ks : Nat} {Q : q_O → q_H → Prop} {th : Int32} {cg : Nat} {sv : Bool} {rs : Int32} {ac : Int32} {rj : Int32} {ro : Nat → Int32} {ad : Nat → Int32} {bf : Nat → Int32} {ln : Nat → Int32} {lz : Nat} {ip : Nat → Int32} {ty : Nat} {he : Nat} {er : Int32} {ea : Int32} {fa : Int32} {cm : Nat → Int32} {cn : Nat} {p : Nat} {q : Nat}   (hp : p < 12) (hq : q < 12) (ho_mo_cg : cg ≤ 8) (ho_mo_lz : lz ≤ 160) (ho_mo_ty : ty ≤ 60) (ho_mo_he : he ≤ 60) (ho_mo_cn : cn ≤ 61)  (hd : 0 ≤ d) (hkc : kc + 0 ≤ mc) (hks : ks + 0 ≤ ms) : ∀ (r k : Nat) (al_2 : Nat → Int32) (hh : q_H) (smo_2 : z_Mr hh 215 th al_2 cg sv rs ac rj ro ad bf ln lz ip ty he er ea fa cm cn) (pH : q_same h hh 215 8) (hk_2 : k + r = 51) (K : ∀ (r2_0 : Nat → Int32), x_mo_copies_2 p q r k al_2 = r2_0 → ∀ h2, z_Mr h2 215 th r2_0 cg sv rs ac rj ro ad bf ln lz ip ty he er ea fa cm cn → q_same h h2 215 8 → q_W g mX11_copies d mc ms Q kc ks 36 [q_u, q_u, q_u, q_u] [] h2), q_W g mX11_copies d mc ms Q kc ks 2 [.ref (215), .int (nI (p)), .int (nI (q)), .int (nI (k))] [] hh := by
  intro r
  induction r with
  | zero =>
    intro k al_2 hh smo_2 pH hk_2 K
    have hb_mo_cg := smo_2.bcg
    have hb_mo_lz := smo_2.blz
    have hb_mo_ty := smo_2.bty
    have hb_mo_he := smo_2.bhe
    have hb_mo_cn := smo_2.bcn
    refine q_iload_n dX11_copies_2 rfl ?_
    refine q_bipush (v := 51) dX11_copies_3 rfl ?_
    refine q_icmp_ge 36 dX11_copies_5 (by decide) (fun b5 => ?_) (fun b5 => ?_)
    · have b5 := (nI_leI (a := 51) (b := k) (by omega) (by omega)).mp b5
      refine q_forget 0 ?_
      refine q_forget 1 ?_
      refine q_forget 2 ?_
      refine q_forget 3 ?_
      change q_W _ _ _ _ _ _ _ _ _ [q_u, q_u, q_u, q_u] [] _
      exact K al_2 (by simp only [x_mo_copies_2]) hh smo_2 pH
    · have b5 : ¬ (51 ≤ k) := fun q => b5 ((nI_leI (a := 51) (b := k) (by omega) (by omega)).mpr q)
      exact absurd b5 (by omega)
  | succ r ih =>
    intro k al_2 hh smo_2 pH hk_2 K
    have hb_mo_cg := smo_2.bcg
    have hb_mo_lz := smo_2.blz
    have hb_mo_ty := smo_2.bty
    have hb_mo_he := smo_2.bhe
    have hb_mo_cn := smo_2.bcn
    refine q_iload_n dX11_copies_2 rfl ?_
    refine q_bipush (v := 51) dX11_copies_3 rfl ?_
    refine q_icmp_ge 36 dX11_copies_5 (by decide) (fun b5 => ?_) (fun b5 => ?_)
    · have b5 := (nI_leI (a := 51) (b := k) (by omega) (by omega)).mp b5
      exact absurd b5 (by omega)
    · have b5 : ¬ (51 ≤ k) := fun q => b5 ((nI_leI (a := 51) (b := k) (by omega) (by omega)).mpr q)
      refine q_aload_n (by first | assumption | omega | decide | (rw [q_R0e]; omega)) dX11_copies_8 rfl ?_
      refine q_getf (k := 1) (v := .ref (216)) kC_X11 kL_X11_9 rfl (by decide) dX11_copies_9 smo_2.c0 rfl ?_
      refine q_bipush (v := 51) dX11_copies_12 rfl ?_
      refine q_iload_n dX11_copies_14 rfl ?_
      refine q_imulN (a := 51) (b := q) dX11_copies_15 ?_
      change q_W _ _ _ _ _ _ _ _ _ _ [.int (nI (51 * q)), .ref (216)] _
      refine q_iload_n dX11_copies_16 rfl ?_
      refine q_iaddN (a := 51 * q) (b := k) dX11_copies_17 ?_
      change q_W _ _ _ _ _ _ _ _ _ _ [.int (nI (51 * q + k)), .ref (216)] _
      refine q_aload_n (by first | assumption | omega | decide | (rw [q_R0e]; omega)) dX11_copies_18 rfl ?_
      refine q_getf (k := 1) (v := .ref (216)) kC_X11 kL_X11_9 rfl (by decide) dX11_copies_19 smo_2.c0 rfl ?_
      refine q_bipush (v := 51) dX11_copies_22 rfl ?_
      refine q_iload_n dX11_copies_24 rfl ?_
      refine q_imulN (a := 51) (b := p) dX11_copies_25 ?_
      change q_W _ _ _ _ _ _ _ _ _ _ [.int (nI (51 * p)), .ref (216), .int (nI (51 * q + k)), .ref (216)] _
      refine q_iload_n dX11_copies_26 rfl ?_
      refine q_iaddN (a := 51 * p) (b := k) dX11_copies_27 ?_
      change q_W _ _ _ _ _ _ _ _ _ _ [.int (nI (51 * p + k)), .ref (216), .int (nI (51 * q + k)), .ref (216)] _
      refine q_ialdN (j := 51 * p + k) (f := al_2) dX11_copies_28 smo_2.c1 (by omega) (by decide) ?_
      change q_W _ _ _ _ _ _ _ _ _ _ [.int (al_2 (51 * p + k)), .int (nI (51 * q + k)), .ref (216)] _
      refine q_iastN (j := 51 * q + k) dX11_copies_29 smo_2.c1 (by omega) (by decide) ?_
      refine z_genW (B := fun H => z_Mr H 215 th (upd al_2 (51 * q + k) (al_2 (51 * p + k))) cg sv rs ac rj ro ad bf ln lz ip ty he er ea fa cm cn ∧ q_same h H 215 8) ⟨z_Mr.put1 smo_2, pH.trans (q_same.set (by omega) (by omega))⟩ (fun h1 hB => ?_)
      obtain ⟨smo1, p1⟩ := hB
      have hb_mo_cg := smo1.bcg
      have hb_mo_lz := smo1.blz
      have hb_mo_ty := smo1.bty
      have hb_mo_he := smo1.bhe
      have hb_mo_cn := smo1.bcn
      refine q_iinc (x := nI (k)) (v := nI (k + 1)) dX11_copies_30 rfl (nI_add _ 1) rfl ?_
      change q_W _ _ _ _ _ _ _ _ _ [.ref (215), .int (nI (p)), .int (nI (q)), .int (nI (k + 1))] [] _
      refine q_goto 2 dX11_copies_33 (by decide) ?_
      change q_W _ _ _ _ _ _ _ _ _ [.ref (215), .int (nI (p)), .int (nI (q)), .int (nI (k + 1))] [] _
      exact ih (k + 1) (upd al_2 (51 * q + k) (al_2 (51 * p + k))) h1 smo1 p1 (by omega) (fun r2_0 e9 => K r2_0 (by simp only [x_mo_copies_2]; exact e9))
def x_mo_copies (al : Nat → Int32) (p : Nat) (q : Nat) : (Nat → Int32) := (let a2_0 := x_mo_copies_2 p q 51 0 al; (a2_0))
set_option maxRecDepth 100000 in
set_option maxHeartbeats 8000000 in
theorem e_mo_copies {g : q_G} {h : q_H} {d : Nat} {th : Int32} {al : Nat → Int32} {cg : Nat} {sv : Bool} {rs : Int32} {ac : Int32} {rj : Int32} {ro : Nat → Int32} {ad : Nat → Int32} {bf : Nat → Int32} {ln : Nat → Int32} {lz : Nat} {ip : Nat → Int32} {ty : Nat} {he : Nat} {er : Int32} {ea : Int32} {fa : Int32} {cm : Nat → Int32} {cn : Nat} (smo : z_Mr h 215 th al cg sv rs ac rj ro ad bf ln lz ip ty he er ea fa cm cn)  (p : Nat) (q : Nat) (hp : p < 12) (hq : q < 12)  (hd : 0 ≤ d) : q_Spec g mX11_copies d 0 0 [.ref (215), .int (nI (p)), .int (nI (q))] h (q_chg (.inl none) (fun h1 => z_Mr h1 215 th (x_mo_copies al p q) cg sv rs ac rj ro ad bf ln lz ip ty he er ea fa cm cn ∧ q_same h h1 215 8)) := by
  have hb_mo_cg := smo.bcg
  have hb_mo_lz := smo.blz
  have hb_mo_ty := smo.bty
  have hb_mo_he := smo.bhe
  have hb_mo_cn := smo.bcn
  have ho_mo_cg := smo.bcg
  have ho_mo_lz := smo.blz
  have ho_mo_ty := smo.bty
  have ho_mo_he := smo.bhe
  have ho_mo_cn := smo.bcn
  have p0 : q_same h h 215 8 := q_same.rfl'
  refine q_enter (by decide +kernel) rfl rfl (Nat.le_of_ble_eq_true rfl) (fun hz => ?_)
  change q_W _ _ _ _ _ _ _ _ _ [.ref (215), .int (nI (p)), .int (nI (q)), q_u] [] _
  refine q_iconst (v := 0) dX11_copies_0 rfl ?_
  refine q_istore_n dX11_copies_1 (by decide) rfl ?_
  change q_W _ _ _ _ _ _ _ _ _ [.ref (215), .int (nI (p)), .int (nI (q)), .int (0)] [] _
  change q_W _ _ _ _ _ _ _ _ _ [.ref (215), .int (nI (p)), .int (nI (q)), .int (0)] [] _
  refine l_mo_copies_2 hp hq ho_mo_cg ho_mo_lz ho_mo_ty ho_mo_he ho_mo_cn (by omega) (by omega) (by omega) 51 0 al h smo p0 (by omega) (fun a2_0 x2 h3 smo3 p3 => ?_)
  have hb_mo_cg := smo3.bcg
  have hb_mo_lz := smo3.blz
  have hb_mo_ty := smo3.bty
  have hb_mo_he := smo3.bhe
  have hb_mo_cn := smo3.bcn
  change q_W _ _ _ _ _ _ _ _ 36 [q_u, q_u, q_u, q_u] [] _
  have hE : x_mo_copies al p q = (a2_0) := by simp only [x_mo_copies, x2]
  rw [hE]
  exact q_return dX11_copies_36 rfl (by omega) (by omega) ⟨rfl, smo3, p3⟩
theorem x_copies_2 {p q : Nat} (hpq : p ≠ q) {al0 : Nat → Int32} : ∀ (r k : Nat) (al : Nat → Int32), k + r = 51 → (∀ i, al i = if 51 * q ≤ i ∧ i < 51 * q + k then al0 (51 * p + (i - 51 * q)) else al0 i) → x_mo_copies_2 p q r k al = x_cp al0 p q := by
  intro r
  induction r with
  | zero =>
    intro k al hk h
    obtain rfl : k = 51 := by omega
    funext i
    exact h i
  | succ r ih =>
    intro k al hk h
    simp only [x_mo_copies_2]
    refine ih (k + 1) _ (by omega) (fun i => ?_)
    have e : al (51 * p + k) = al0 (51 * p + k) := by
      rw [h, if_neg]
      rcases Nat.lt_or_gt_of_ne hpq with g | g
      · have : 51 * p + 51 ≤ 51 * q := by omega
        omega
      · have : 51 * q + 51 ≤ 51 * p := by omega
        omega
    by_cases c : i = 51 * q + k
    · subst c
      rw [upd_eq, if_pos (by omega), e, Nat.add_sub_cancel_left]
    · rw [upd_ne c, h]
      by_cases g : 51 * q ≤ i ∧ i < 51 * q + k
      · rw [if_pos g, if_pos (by omega)]
      · rw [if_neg g, if_neg (by omega)]
theorem x_copies_eq {p q : Nat} (hpq : p ≠ q) {al : Nat → Int32} : x_mo_copies al p q = x_cp al p q := by
  unfold x_mo_copies
  exact x_copies_2 hpq 51 0 al (by omega) (fun i => by rw [if_neg (by omega)])
theorem e_cp {g : q_G} {h : q_H} {d : Nat} {th : Int32} {al : Nat → Int32} {cg : Nat} {sv : Bool} {rs : Int32} {ac : Int32} {rj : Int32} {ro : Nat → Int32} {ad : Nat → Int32} {bf : Nat → Int32} {ln : Nat → Int32} {lz : Nat} {ip : Nat → Int32} {ty : Nat} {he : Nat} {er : Int32} {ea : Int32} {fa : Int32} {cm : Nat → Int32} {cn : Nat} (smo : z_Mr h 215 th al cg sv rs ac rj ro ad bf ln lz ip ty he er ea fa cm cn) (p q : Nat) (hp : p < 12) (hq : q < 12) (hpq : p ≠ q) (hd : 0 ≤ d) : q_Spec g mX11_copies d 0 0 [.ref 215, .int (nI p), .int (nI q)] h (q_chg (.inl none) (fun h1 => z_Mr h1 215 th (x_cp al p q) cg sv rs ac rj ro ad bf ln lz ip ty he er ea fa cm cn ∧ q_same h h1 215 8)) := by
  have e := e_mo_copies (g := g) (d := d) smo p q hp hq (by omega)
  rw [x_copies_eq hpq] at e
  exact e
theorem e_cpO {g : q_G} {h : q_H} {d : Nat} {th : Int32} {al : Nat → Int32} {cg : Nat} {sv : Bool} {rs : Int32} {ac : Int32} {rj : Int32} {ro : Nat → Int32} {ad : Nat → Int32} {bf : Nat → Int32} {ln : Nat → Int32} {lz : Nat} {ip : Nat → Int32} {ty : Nat} {he : Nat} {er : Int32} {ea : Int32} {fa : Int32} {cm : Nat → Int32} {cn : Nat} {n : Nat} {mn : Nat} (smo : z_Mo h 215 th al cg sv rs ac rj ro ad bf ln lz ip ty he er ea fa cm cn n mn) (p q : Nat) (hp : p < 12) (hq : q < 12) (hq0 : 0 < q) (hpq : p ≠ q) (hd : 0 ≤ d) : q_Spec g mX11_copies d 0 0 [.ref 215, .int (nI p), .int (nI q)] h (q_chg (.inl none) (fun h1 => z_Mo h1 215 th (x_cp al p q) cg sv rs ac rj ro ad bf ln lz ip ty he er ea fa cm cn n mn ∧ q_same h h1 215 8)) := by
  refine q_chgI (e_cp smo.raw p q hp hq hpq hd) (fun h1 hB => ?_)
  exact ⟨hB.1.mo ((x_cp_ne (by omega)).trans smo.en) smo.bn ((x_cp_ne (by omega)).trans smo.emn) smo.bmn, hB.2⟩