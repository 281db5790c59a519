def z_S2 (h : q_H) (b : Nat) (n : Nat) (id : Nat → Int32) (wt : Nat → Int32) (ag : Nat → Int32) (tg : Nat → Int32) (att : Nat → Int32) (ni : Int32) (dy : Int32) (mn : Nat) (mv : Nat → Int32) (en : Int32) (wo : Int32) (br : Int32) : Prop :=
  q_R0 ≤ b ∧
  b + 8 ≤ h.1 ∧
  n ≤ 8 ∧
  mn ≤ 12 ∧
  h.2 (b) = some (.inr (10, [.ref (b + 1), .ref (b + 2), .ref (b + 3), .ref (b + 4), .ref (b + 5), .ref (b + 6), .int (nI (n)), .int (ni), .int (dy)])) ∧
  h.2 (b + 1) = some (.inl (0, 8, .inl (id))) ∧
  h.2 (b + 2) = some (.inl (0, 8, .inl (wt))) ∧
  h.2 (b + 3) = some (.inl (0, 8, .inl (ag))) ∧
  h.2 (b + 4) = some (.inl (0, 8, .inl (tg))) ∧
  h.2 (b + 5) = some (.inl (0, 8, .inl (att))) ∧
  h.2 (b + 6) = some (.inr (4, [.ref (b + 7), .int (nI (mn)), .int (en), .int (wo), .int (br)])) ∧
  h.2 (b + 7) = some (.inl (0, 12, .inl (mv)))
theorem z_S2.r0 {h : q_H} {b : Nat} {n : Nat} {id : Nat → Int32} {wt : Nat → Int32} {ag : Nat → Int32} {tg : Nat → Int32} {att : Nat → Int32} {ni : Int32} {dy : Int32} {mn : Nat} {mv : Nat → Int32} {en : Int32} {wo : Int32} {br : Int32} (s : z_S2 h b n id wt ag tg att ni dy mn mv en wo br) : q_R0 ≤ b := s.1
theorem z_S2.s0 {h : q_H} {b : Nat} {n : Nat} {id : Nat → Int32} {wt : Nat → Int32} {ag : Nat → Int32} {tg : Nat → Int32} {att : Nat → Int32} {ni : Int32} {dy : Int32} {mn : Nat} {mv : Nat → Int32} {en : Int32} {wo : Int32} {br : Int32} (s : z_S2 h b n id wt ag tg att ni dy mn mv en wo br) : b + 8 ≤ h.1 := s.2.1
theorem z_S2.bn {h : q_H} {b : Nat} {n : Nat} {id : Nat → Int32} {wt : Nat → Int32} {ag : Nat → Int32} {tg : Nat → Int32} {att : Nat → Int32} {ni : Int32} {dy : Int32} {mn : Nat} {mv : Nat → Int32} {en : Int32} {wo : Int32} {br : Int32} (s : z_S2 h b n id wt ag tg att ni dy mn mv en wo br) : n ≤ 8 := s.2.2.1
theorem z_S2.bmn {h : q_H} {b : Nat} {n : Nat} {id : Nat → Int32} {wt : Nat → Int32} {ag : Nat → Int32} {tg : Nat → Int32} {att : Nat → Int32} {ni : Int32} {dy : Int32} {mn : Nat} {mv : Nat → Int32} {en : Int32} {wo : Int32} {br : Int32} (s : z_S2 h b n id wt ag tg att ni dy mn mv en wo br) : mn ≤ 12 := s.2.2.2.1
theorem z_S2.c0 {h : q_H} {b : Nat} {n : Nat} {id : Nat → Int32} {wt : Nat → Int32} {ag : Nat → Int32} {tg : Nat → Int32} {att : Nat → Int32} {ni : Int32} {dy : Int32} {mn : Nat} {mv : Nat → Int32} {en : Int32} {wo : Int32} {br : Int32} (s : z_S2 h b n id wt ag tg att ni dy mn mv en wo br) : h.2 (b) = some (.inr (10, [.ref (b + 1), .ref (b + 2), .ref (b + 3), .ref (b + 4), .ref (b + 5), .ref (b + 6), .int (nI (n)), .int (ni), .int (dy)])) := s.2.2.2.2.1
theorem z_S2.c1 {h : q_H} {b : Nat} {n : Nat} {id : Nat → Int32} {wt : Nat → Int32} {ag : Nat → Int32} {tg : Nat → Int32} {att : Nat → Int32} {ni : Int32} {dy : Int32} {mn : Nat} {mv : Nat → Int32} {en : Int32} {wo : Int32} {br : Int32} (s : z_S2 h b n id wt ag tg att ni dy mn mv en wo br) : h.2 (b + 1) = some (.inl (0, 8, .inl (id))) := s.2.2.2.2.2.1
theorem z_S2.c2 {h : q_H} {b : Nat} {n : Nat} {id : Nat → Int32} {wt : Nat → Int32} {ag : Nat → Int32} {tg : Nat → Int32} {att : Nat → Int32} {ni : Int32} {dy : Int32} {mn : Nat} {mv : Nat → Int32} {en : Int32} {wo : Int32} {br : Int32} (s : z_S2 h b n id wt ag tg att ni dy mn mv en wo br) : h.2 (b + 2) = some (.inl (0, 8, .inl (wt))) := s.2.2.2.2.2.2.1
theorem z_S2.c3 {h : q_H} {b : Nat} {n : Nat} {id : Nat → Int32} {wt : Nat → Int32} {ag : Nat → Int32} {tg : Nat → Int32} {att : Nat → Int32} {ni : Int32} {dy : Int32} {mn : Nat} {mv : Nat → Int32} {en : Int32} {wo : Int32} {br : Int32} (s : z_S2 h b n id wt ag tg att ni dy mn mv en wo br) : h.2 (b + 3) = some (.inl (0, 8, .inl (ag))) := s.2.2.2.2.2.2.2.1
theorem z_S2.c4 {h : q_H} {b : Nat} {n : Nat} {id : Nat → Int32} {wt : Nat → Int32} {ag : Nat → Int32} {tg : Nat → Int32} {att : Nat → Int32} {ni : Int32} {dy : Int32} {mn : Nat} {mv : Nat → Int32} {en : Int32} {wo : Int32} {br : Int32} (s : z_S2 h b n id wt ag tg att ni dy mn mv en wo br) : h.2 (b + 4) = some (.inl (0, 8, .inl (tg))) := s.2.2.2.2.2.2.2.2.1
theorem z_S2.c5 {h : q_H} {b : Nat} {n : Nat} {id : Nat → Int32} {wt : Nat → Int32} {ag : Nat → Int32} {tg : Nat → Int32} {att : Nat → Int32} {ni : Int32} {dy : Int32} {mn : Nat} {mv : Nat → Int32} {en : Int32} {wo : Int32} {br : Int32} (s : z_S2 h b n id wt ag tg att ni dy mn mv en wo br) : h.2 (b + 5) = some (.inl (0, 8, .inl (att))) := s.2.2.2.2.2.2.2.2.2.1
theorem z_S2.c6 {h : q_H} {b : Nat} {n : Nat} {id : Nat → Int32} {wt : Nat → Int32} {ag : Nat → Int32} {tg : Nat → Int32} {att : Nat → Int32} {ni : Int32} {dy : Int32} {mn : Nat} {mv : Nat → Int32} {en : Int32} {wo : Int32} {br : Int32} (s : z_S2 h b n id wt ag tg att ni dy mn mv en wo br) : h.2 (b + 6) = some (.inr (4, [.ref (b + 7), .int (nI (mn)), .int (en), .int (wo), .int (br)])) := s.2.2.2.2.2.2.2.2.2.2.1
theorem z_S2.c7 {h : q_H} {b : Nat} {n : Nat} {id : Nat → Int32} {wt : Nat → Int32} {ag : Nat → Int32} {tg : Nat → Int32} {att : Nat → Int32} {ni : Int32} {dy : Int32} {mn : Nat} {mv : Nat → Int32} {en : Int32} {wo : Int32} {br : Int32} (s : z_S2 h b n id wt ag tg att ni dy mn mv en wo br) : h.2 (b + 7) = some (.inl (0, 12, .inl (mv))) := s.2.2.2.2.2.2.2.2.2.2.2
theorem z_S2.keep {h1 : q_H} {b1 k1 : Nat} {h : q_H} {b : Nat} {n : Nat} {id : Nat → Int32} {wt : Nat → Int32} {ag : Nat → Int32} {tg : Nat → Int32} {att : Nat → Int32} {ni : Int32} {dy : Int32} {mn : Nat} {mv : Nat → Int32} {en : Int32} {wo : Int32} {br : Int32} (s : z_S2 h b n id wt ag tg att ni dy mn mv en wo br) (q : q_same h h1 b1 k1) (hx : b + 8 ≤ b1 ∨ b1 + k1 ≤ b) : z_S2 h1 b n id wt ag tg att ni dy mn mv en wo br := by
  obtain ⟨w0, w1, w2, w3, w4, w5, w6, w7, w8, w9, w10, w11⟩ := s
  exact ⟨w0, Nat.le_trans w1 q.1, w2, w3, (q.2 _ (by omega) (by omega)).trans w4, (q.2 _ (by omega) (by omega)).trans w5, (q.2 _ (by omega) (by omega)).trans w6, (q.2 _ (by omega) (by omega)).trans w7, (q.2 _ (by omega) (by omega)).trans w8, (q.2 _ (by omega) (by omega)).trans w9, (q.2 _ (by omega) (by omega)).trans w10, (q.2 _ (by omega) (by omega)).trans w11⟩
theorem z_S2.put0 {h : q_H} {b : Nat} {n : Nat} {id : Nat → Int32} {wt : Nat → Int32} {ag : Nat → Int32} {tg : Nat → Int32} {att : Nat → Int32} {ni : Int32} {dy : Int32} {mn : Nat} {mv : Nat → Int32} {en : Int32} {wo : Int32} {br : Int32} (s : z_S2 h b n id wt ag tg att ni dy mn mv en wo br) {n' : Nat} {ni' : Int32} {dy' : Int32} (hbn : n' ≤ 8)  : z_S2 (q_set h (b) (.inr (10, [.ref (b + 1), .ref (b + 2), .ref (b + 3), .ref (b + 4), .ref (b + 5), .ref (b + 6), .int (nI (n')), .int (ni'), .int (dy')]))) b n' id wt ag tg att ni' dy' mn mv en wo br := by
  obtain ⟨w0, w1, w2, w3, w4, w5, w6, w7, w8, w9, w10, w11⟩ := s
  exact ⟨w0, w1, hbn, w3, q_set_eq, (q_set_ne (by omega)).trans w5, (q_set_ne (by omega)).trans w6, (q_set_ne (by omega)).trans w7, (q_set_ne (by omega)).trans w8, (q_set_ne (by omega)).trans w9, (q_set_ne (by omega)).trans w10, (q_set_ne (by omega)).trans w11⟩
theorem z_S2.put1 {h : q_H} {b : Nat} {n : Nat} {id : Nat → Int32} {wt : Nat → Int32} {ag : Nat → Int32} {tg : Nat → Int32} {att : Nat → Int32} {ni : Int32} {dy : Int32} {mn : Nat} {mv : Nat → Int32} {en : Int32} {wo : Int32} {br : Int32} (s : z_S2 h b n id wt ag tg att ni dy mn mv en wo br) {id' : Nat → Int32}   : z_S2 (q_set h (b + 1) (.inl (0, 8, .inl (id')))) b n id' wt ag tg att ni dy mn mv en wo br := by
  obtain ⟨w0, w1, w2, w3, w4, w5, w6, w7, w8, w9, w10, w11⟩ := s
  exact ⟨w0, w1, w2, w3, (q_set_ne (by omega)).trans w4, q_set_eq, (q_set_ne (by omega)).trans w6, (q_set_ne (by omega)).trans w7, (q_set_ne (by omega)).trans w8, (q_set_ne (by omega)).trans w9, (q_set_ne (by omega)).trans w10, (q_set_ne (by omega)).trans w11⟩
theorem z_S2.put2 {h : q_H} {b : Nat} {n : Nat} {id : Nat → Int32} {wt : Nat → Int32} {ag : Nat → Int32} {tg : Nat → Int32} {att : Nat → Int32} {ni : Int32} {dy : Int32} {mn : Nat} {mv : Nat → Int32} {en : Int32} {wo : Int32} {br : Int32} (s : z_S2 h b n id wt ag tg att ni dy mn mv en wo br) {wt' : Nat → Int32}   : z_S2 (q_set h (b + 2) (.inl (0, 8, .inl (wt')))) b n id wt' ag tg att ni dy mn mv en wo br := by
  obtain ⟨w0, w1, w2, w3, w4, w5, w6, w7, w8, w9, w10, w11⟩ := s
  exact ⟨w0, w1, w2, w3, (q_set_ne (by omega)).trans w4, (q_set_ne (by omega)).trans w5, q_set_eq, (q_set_ne (by omega)).trans w7, (q_set_ne (by omega)).trans w8, (q_set_ne (by omega)).trans w9, (q_set_ne (by omega)).trans w10, (q_set_ne (by omega)).trans w11⟩
theorem z_S2.put3 {h : q_H} {b : Nat} {n : Nat} {id : Nat → Int32} {wt : Nat → Int32} {ag : Nat → Int32} {tg : Nat → Int32} {att : Nat → Int32} {ni : Int32} {dy : Int32} {mn : Nat} {mv : Nat → Int32} {en : Int32} {wo : Int32} {br : Int32} (s : z_S2 h b n id wt ag tg att ni dy mn mv en wo br) {ag' : Nat → Int32}   : z_S2 (q_set h (b + 3) (.inl (0, 8, .inl (ag')))) b n id wt ag' tg att ni dy mn mv en wo br := by
  obtain ⟨w0, w1, w2, w3, w4, w5, w6, w7, w8, w9, w10, w11⟩ := s
  exact ⟨w0, w1, w2, w3, (q_set_ne (by omega)).trans w4, (q_set_ne (by omega)).trans w5, (q_set_ne (by omega)).trans w6, q_set_eq, (q_set_ne (by omega)).trans w8, (q_set_ne (by omega)).trans w9, (q_set_ne (by omega)).trans w10, (q_set_ne (by omega)).trans w11⟩
theorem z_S2.put4 {h : q_H} {b : Nat} {n : Nat} {id : Nat → Int32} {wt : Nat → Int32} {ag : Nat → Int32} {tg : Nat → Int32} {att : Nat → Int32} {ni : Int32} {dy : Int32} {mn : Nat} {mv : Nat → Int32} {en : Int32} {wo : Int32} {br : Int32} (s : z_S2 h b n id wt ag tg att ni dy mn mv en wo br) {tg' : Nat → Int32}   : z_S2 (q_set h (b + 4) (.inl (0, 8, .inl (tg')))) b n id wt ag tg' att ni dy mn mv en wo br := by
  obtain ⟨w0, w1, w2, w3, w4, w5, w6, w7, w8, w9, w10, w11⟩ := s
  exact ⟨w0, w1, w2, w3, (q_set_ne (by omega)).trans w4, (q_set_ne (by omega)).trans w5, (q_set_ne (by omega)).trans w6, (q_set_ne (by omega)).trans w7, q_set_eq, (q_set_ne (by omega)).trans w9, (q_set_ne (by omega)).trans w10, (q_set_ne (by omega)).trans w11⟩
theorem z_S2.put5 {h : q_H} {b : Nat} {n : Nat} {id : Nat → Int32} {wt : Nat → Int32} {ag : Nat → Int32} {tg : Nat → Int32} {att : Nat → Int32} {ni : Int32} {dy : Int32} {mn : Nat} {mv : Nat → Int32} {en : Int32} {wo : Int32} {br : Int32} (s : z_S2 h b n id wt ag tg att ni dy mn mv en wo br) {att' : Nat → Int32}   : z_S2 (q_set h (b + 5) (.inl (0, 8, .inl (att')))) b n id wt ag tg att' ni dy mn mv en wo br := by
  obtain ⟨w0, w1, w2, w3, w4, w5, w6, w7, w8, w9, w10, w11⟩ := s
  exact ⟨w0, w1, w2, w3, (q_set_ne (by omega)).trans w4, (q_set_ne (by omega)).trans w5, (q_set_ne (by omega)).trans w6, (q_set_ne (by omega)).trans w7, (q_set_ne (by omega)).trans w8, q_set_eq, (q_set_ne (by omega)).trans w10, (q_set_ne (by omega)).trans w11⟩
theorem z_S2.put6 {h : q_H} {b : Nat} {n : Nat} {id : Nat → Int32} {wt : Nat → Int32} {ag : Nat → Int32} {tg : Nat → Int32} {att : Nat → Int32} {ni : Int32} {dy : Int32} {mn : Nat} {mv : Nat → Int32} {en : Int32} {wo : Int32} {br : Int32} (s : z_S2 h b n id wt ag tg att ni dy mn mv en wo br) {mn' : Nat} {en' : Int32} {wo' : Int32} {br' : Int32} (hbmn : mn' ≤ 12)  : z_S2 (q_set h (b + 6) (.inr (4, [.ref (b + 7), .int (nI (mn')), .int (en'), .int (wo'), .int (br')]))) b n id wt ag tg att ni dy mn' mv en' wo' br' := by
  obtain ⟨w0, w1, w2, w3, w4, w5, w6, w7, w8, w9, w10, w11⟩ := s
  exact ⟨w0, w1, w2, hbmn, (q_set_ne (by omega)).trans w4, (q_set_ne (by omega)).trans w5, (q_set_ne (by omega)).trans w6, (q_set_ne (by omega)).trans w7, (q_set_ne (by omega)).trans w8, (q_set_ne (by omega)).trans w9, q_set_eq, (q_set_ne (by omega)).trans w11⟩
theorem z_S2.put7 {h : q_H} {b : Nat} {n : Nat} {id : Nat → Int32} {wt : Nat → Int32} {ag : Nat → Int32} {tg : Nat → Int32} {att : Nat → Int32} {ni : Int32} {dy : Int32} {mn : Nat} {mv : Nat → Int32} {en : Int32} {wo : Int32} {br : Int32} (s : z_S2 h b n id wt ag tg att ni dy mn mv en wo br) {mv' : Nat → Int32}   : z_S2 (q_set h (b + 7) (.inl (0, 12, .inl (mv')))) b n id wt ag tg att ni dy mn mv' en wo br := by
  obtain ⟨w0, w1, w2, w3, w4, w5, w6, w7, w8, w9, w10, w11⟩ := s
  exact ⟨w0, w1, w2, w3, (q_set_ne (by omega)).trans w4, (q_set_ne (by omega)).trans w5, (q_set_ne (by omega)).trans w6, (q_set_ne (by omega)).trans w7, (q_set_ne (by omega)).trans w8, (q_set_ne (by omega)).trans w9, (q_set_ne (by omega)).trans w10, q_set_eq⟩
theorem z_S2.dl {h : q_H} {b : Nat} {n : Nat} {id : Nat → Int32} {wt : Nat → Int32} {ag : Nat → Int32} {tg : Nat → Int32} {att : Nat → Int32} {ni : Int32} {dy : Int32} {mn : Nat} {mv : Nat → Int32} {en : Int32} {wo : Int32} {br : Int32} (s : z_S2 h b n id wt ag tg att ni dy mn mv en wo br) : z_Dl2 h (b + 6) mn mv en wo br := by
  obtain ⟨w0, w1, w2, w3, w4, w5, w6, w7, w8, w9, w10, w11⟩ := s
  exact ⟨by omega, by omega, w3, w10, w11⟩
theorem z_S2.ofdl {h h1 : q_H} {b : Nat} {n : Nat} {id : Nat → Int32} {wt : Nat → Int32} {ag : Nat → Int32} {tg : Nat → Int32} {att : Nat → Int32} {ni : Int32} {dy : Int32} {mn : Nat} {mv : Nat → Int32} {en : Int32} {wo : Int32} {br : Int32} {mn' : Nat} {mv' : Nat → Int32} {en' wo' br' : Int32} (s : z_S2 h b n id wt ag tg att ni dy mn mv en wo br) (t : z_Dl2 h1 (b + 6) mn' mv' en' wo' br') (q : q_same h h1 (b + 6) 2) : z_S2 h1 b n id wt ag tg att ni dy mn' mv' en' wo' br' := by
  obtain ⟨w0, w1, w2, w3, w4, w5, w6, w7, w8, w9, w10, w11⟩ := s
  obtain ⟨v0, v1, v2, v3, v4⟩ := t
  exact ⟨w0, Nat.le_trans w1 q.1, w2, v2, (q.2 _ (by omega) (by omega)).trans w4, (q.2 _ (by omega) (by omega)).trans w5, (q.2 _ (by omega) (by omega)).trans w6, (q.2 _ (by omega) (by omega)).trans w7, (q.2 _ (by omega) (by omega)).trans w8, (q.2 _ (by omega) (by omega)).trans w9, v3, v4⟩
def x_st_strength (wt : Nat → Int32) (ag : Nat → Int32) (j : Nat) : Int32 := (if (1 : Int32) ≤ ((wt j) - ((ag j) / (10 : Int32))) then (wt j) - ((ag j) / (10 : Int32)) else 1)
set_option maxRecDepth 100000 in
set_option maxHeartbeats 8000000 in
theorem e_st_strength {g : q_G} {h : q_H} {d : Nat} {a : Nat} {n : Nat} {id : Nat → Int32} {wt : Nat → Int32} {ag : Nat → Int32} {tg : Nat → Int32} {att : Nat → Int32} {ni : Int32} {dy : Int32} {mn : Nat} {mv : Nat → Int32} {en : Int32} {wo : Int32} {br : Int32} (sst : z_S2 h a n id wt ag tg att ni dy mn mv en wo br) (j : Nat) (hj : j < n)  (hd : 0 ≤ d) : q_Spec g mX8_strength d 0 0 [.ref (a), .int (nI (j))] h (q_ret ((some (.int (x_st_strength wt ag j)))) h) := by
  have hr_st := sst.r0
  have hb_st_n := sst.bn
  have hb_st_mn := sst.bmn
  have ho_st_n := sst.bn
  have ho_st_mn := sst.bmn
  refine q_enter (by decide +kernel) rfl rfl (Nat.le_of_ble_eq_true rfl) (fun hz => ?_)
  change q_W _ _ _ _ _ _ _ _ _ [.ref (a), .int (nI (j)), q_u] [] _
  refine q_aload_n (by first | assumption | omega | decide) dX8_strength_0 rfl ?_
  refine q_getf (k := 1) (v := .ref (a + 2)) kC_X8 kL_X8_15 rfl (by decide) dX8_strength_1 sst.c0 rfl ?_
  refine q_iload_n dX8_strength_4 rfl ?_
  refine q_ialdN (j := j) (f := wt) dX8_strength_5 sst.c2 (by omega) (by decide) ?_
  change q_W _ _ _ _ _ _ _ _ _ _ [.int (wt j)] _
  refine q_aload_n (by first | assumption | omega | decide) dX8_strength_6 rfl ?_
  refine q_getf (k := 2) (v := .ref (a + 3)) kC_X8 kL_X8_18 rfl (by decide) dX8_strength_7 sst.c0 rfl ?_
  refine q_iload_n dX8_strength_10 rfl ?_
  refine q_ialdN (j := j) (f := ag) dX8_strength_11 sst.c3 (by omega) (by decide) ?_
  change q_W _ _ _ _ _ _ _ _ _ _ [.int (ag j), .int (wt j)] _
  refine q_bipush (v := 10) dX8_strength_12 rfl ?_
  refine q_idiv dX8_strength_14 (by decide) ?_
  refine q_isub dX8_strength_15 ?_
  refine q_istore_n dX8_strength_16 (by decide) rfl ?_
  change q_W _ _ _ _ _ _ _ _ _ [.ref (a), .int (nI (j)), .int ((wt j) - ((ag j) / (10 : Int32)))] [] _
  refine q_iload_n dX8_strength_17 rfl ?_
  refine q_iconst (v := 1) dX8_strength_18 rfl ?_
  refine q_icmp_ge 26 dX8_strength_19 (by decide) (fun b19 => ?_) (fun b19 => ?_)
  · refine q_iload_n dX8_strength_26 rfl ?_
    have hE : x_st_strength wt ag j = (wt j) - ((ag j) / (10 : Int32)) := by simp only [x_st_strength, if_pos b19]
    rw [hE]
    exact q_ireturn dX8_strength_27 rfl rfl (by omega) (by omega) ⟨rfl, rfl⟩
  · refine q_iconst (v := 1) dX8_strength_22 rfl ?_
    refine q_goto 27 dX8_strength_23 (by decide) ?_
    have hE : x_st_strength wt ag j = 1 := by simp only [x_st_strength, if_neg b19]
    rw [hE]
    exact q_ireturn dX8_strength_27 rfl rfl (by omega) (by omega) ⟨rfl, rfl⟩
def x_st_all (n : Nat) : Int32 := ((1 : Int32) <<< ((nI (n)) &&& 31)) - (1 : Int32)
set_option maxRecDepth 100000 in
set_option maxHeartbeats 8000000 in
theorem e_st_all {g : q_G} {h : q_H} {d : Nat} {a : Nat} {n : Nat} {id : Nat → Int32} {wt : Nat → Int32} {ag : Nat → Int32} {tg : Nat → Int32} {att : Nat → Int32} {ni : Int32} {dy : Int32} {mn : Nat} {mv : Nat → Int32} {en : Int32} {wo : Int32} {br : Int32} (sst : z_S2 h a n id wt ag tg att ni dy mn mv en wo br)    (hd : 0 ≤ d) : q_Spec g mX8_all d 0 0 [.ref (a)] h (q_ret ((some (.int (x_st_all n)))) h) := by
  have hr_st := sst.r0
  have hb_st_n := sst.bn
  have hb_st_mn := sst.bmn
  have ho_st_n := sst.bn
  have ho_st_mn := sst.bmn
  refine q_enter (by decide +kernel) rfl rfl (Nat.le_of_ble_eq_true rfl) (fun hz => ?_)
  change q_W _ _ _ _ _ _ _ _ _ [.ref (a)] [] _
  refine q_iconst (v := 1) dX8_all_0 rfl ?_
  refine q_aload_n (by first | assumption | omega | decide) dX8_all_1 rfl ?_
  refine q_getf (k := 6) (v := .int (nI (n))) kC_X8 kL_X8_34 rfl (by decide) dX8_all_2 sst.c0 rfl ?_
  refine q_ishl dX8_all_5 ?_
  refine q_iconst (v := 1) dX8_all_6 rfl ?_
  refine q_isub dX8_all_7 ?_
  have hE : x_st_all n = ((1 : Int32) <<< ((nI (n)) &&& 31)) - (1 : Int32) := by simp only [x_st_all]
  rw [hE]
  exact q_ireturn dX8_all_8 rfl rfl (by omega) (by omega) ⟨rfl, rfl⟩
def x_st_slotOfKnown_2 (id : Nat → Int32) (xid : Int32) : Nat → Nat → (Unit) ⊕ (Nat ⊕ String)
  | 0, _ => .inl ()
  | r + 1, k => (if (id k) = (xid) then .inr (.inl k) else x_st_slotOfKnown_2 id xid r (k + 1) )
set_option maxRecDepth 100000 in
set_option maxHeartbeats 8000000 in
theorem l_st_slotOfKnown_2 {g : q_G} {h : q_H} {d mc ms kc ks : Nat} {Q : q_O → q_H → Prop} {a : Nat} {n : Nat} {id : Nat → Int32} {wt : Nat → Int32} {ag : Nat → Int32} {tg : Nat → Int32} {att : Nat → Int32} {ni : Int32} {dy : Int32} {mn : Nat} {mv : Nat → Int32} {en : Int32} {wo : Int32} {br : Int32} {xid : Int32} (sst : z_S2 h a n id wt ag tg att ni dy mn mv en wo br)  (ho_st_n : n ≤ 8) (ho_st_mn : mn ≤ 12)  (hd : 0 ≤ d) (hkc : kc + 0 ≤ mc) (hks : ks + 0 ≤ ms) : ∀ (r k : Nat)  (hk_2 : k + r = n) (K : ∀ (_ : Unit), x_st_slotOfKnown_2 id xid r k  = .inl () → q_W g mX8_slotOfKnown d mc ms Q kc ks 28 [q_u, q_u, q_u] [] h) (K2 : ∀ z, x_st_slotOfKnown_2 id xid r k  = .inr z → ∀ o h1, q_out (q_oN z) h o h1 → Q o h1), q_W g mX8_slotOfKnown d mc ms Q kc ks 2 [.ref (a), .int (xid), .int (nI (k))] [] h := by
  intro r
  induction r with
  | zero =>
    intro k   hk_2 K K2
    have hr_st := sst.r0
    have hb_st_n := sst.bn
    have hb_st_mn := sst.bmn
    refine q_iload_n dX8_slotOfKnown_2 rfl ?_
    refine q_aload_n (by first | assumption | omega | decide) dX8_slotOfKnown_3 rfl ?_
    refine q_getf (k := 6) (v := .int (nI (n))) kC_X8 kL_X8_34 rfl (by decide) dX8_slotOfKnown_4 sst.c0 rfl ?_
    refine q_icmp_ge 28 dX8_slotOfKnown_7 (by decide) (fun b7 => ?_) (fun b7 => ?_)
    · have b7 := (nI_leI (a := n) (b := k) (by omega) (by omega)).mp b7
      refine q_forget 0 ?_
      refine q_forget 1 ?_
      refine q_forget 2 ?_
      change q_W _ _ _ _ _ _ _ _ _ [q_u, q_u, q_u] [] _
      exact K () (by simp only [x_st_slotOfKnown_2])
    · have b7 : ¬ (n ≤ k) := fun q => b7 ((nI_leI (a := n) (b := k) (by omega) (by omega)).mpr q)
      exact absurd b7 (by omega)
  | succ r ih =>
    intro k   hk_2 K K2
    have hr_st := sst.r0
    have hb_st_n := sst.bn
    have hb_st_mn := sst.bmn
    refine q_iload_n dX8_slotOfKnown_2 rfl ?_
    refine q_aload_n (by first | assumption | omega | decide) dX8_slotOfKnown_3 rfl ?_
    refine q_getf (k := 6) (v := .int (nI (n))) kC_X8 kL_X8_34 rfl (by decide) dX8_slotOfKnown_4 sst.c0 rfl ?_
    refine q_icmp_ge 28 dX8_slotOfKnown_7 (by decide) (fun b7 => ?_) (fun b7 => ?_)
    · have b7 := (nI_leI (a := n) (b := k) (by omega) (by omega)).mp b7
      exact absurd b7 (by omega)
    · have b7 : ¬ (n ≤ k) := fun q => b7 ((nI_leI (a := n) (b := k) (by omega) (by omega)).mpr q)
      refine q_aload_n (by first | assumption | omega | decide) dX8_slotOfKnown_10 rfl ?_
      refine q_getf (k := 0) (v := .ref (a + 1)) kC_X8 kL_X8_9 rfl (by decide) dX8_slotOfKnown_11 sst.c0 rfl ?_
      refine q_iload_n dX8_slotOfKnown_14 rfl ?_
      refine q_ialdN (j := k) (f := id) dX8_slotOfKnown_15 sst.c1 (by omega) (by decide) ?_
      change q_W _ _ _ _ _ _ _ _ _ _ [.int (id k)] _
      refine q_iload_n dX8_slotOfKnown_16 rfl ?_
      refine q_icmp_ne 22 dX8_slotOfKnown_17 (by decide) (fun b17 => ?_) (fun b17 => ?_)
      · refine q_iinc (x := nI (k)) (v := nI (k + 1)) dX8_slotOfKnown_22 rfl (nI_add _ 1) rfl ?_
        change q_W _ _ _ _ _ _ _ _ _ [.ref (a), .int (xid), .int (nI (k + 1))] [] _
        refine q_goto 2 dX8_slotOfKnown_25 (by decide) ?_
        change q_W _ _ _ _ _ _ _ _ _ [.ref (a), .int (xid), .int (nI (k + 1))] [] _
        exact ih (k + 1)  (by omega) (fun _ e9 => K () (by simp only [x_st_slotOfKnown_2, if_neg b17]; exact e9)) (fun z9 e9 => K2 z9 (by simp only [x_st_slotOfKnown_2, if_neg b17]; exact e9))
      · refine q_iload_n dX8_slotOfKnown_20 rfl ?_
        exact q_ireturn dX8_slotOfKnown_21 rfl rfl (by omega) (by omega) (K2 (.inl k) (by simp only [x_st_slotOfKnown_2, if_pos b17]) _ _ ⟨rfl, rfl⟩)
def x_st_slotOfKnown (n : Nat) (id : Nat → Int32) (xid : Int32) : Nat ⊕ String := (match x_st_slotOfKnown_2 id xid n 0 with | .inl () => .inr "java/util/NoSuchElementException" | .inr zz => zz)
set_option maxRecDepth 100000 in
set_option maxHeartbeats 8000000 in
theorem e_st_slotOfKnown {g : q_G} {h : q_H} {d : Nat} {a : Nat} {n : Nat} {id : Nat → Int32} {wt : Nat → Int32} {ag : Nat → Int32} {tg : Nat → Int32} {att : Nat → Int32} {ni : Int32} {dy : Int32} {mn : Nat} {mv : Nat → Int32} {en : Int32} {wo : Int32} {br : Int32} (sst : z_S2 h a n id wt ag tg att ni dy mn mv en wo br) (xid : Int32)   (hd : 7 ≤ d) : q_Spec g mX8_slotOfKnown d 1 6 [.ref (a), .int (xid)] h (q_out (q_oN (x_st_slotOfKnown n id xid)) h) := by
  have hr_st := sst.r0
  have hb_st_n := sst.bn
  have hb_st_mn := sst.bmn
  have ho_st_n := sst.bn
  have ho_st_mn := sst.bmn
  refine q_enter (by decide +kernel) rfl rfl (Nat.le_of_ble_eq_true rfl) (fun hz => ?_)
  change q_W _ _ _ _ _ _ _ _ _ [.ref (a), .int (xid), q_u] [] _
  refine q_iconst (v := 0) dX8_slotOfKnown_0 rfl ?_
  refine q_istore_n dX8_slotOfKnown_1 (by decide) rfl ?_
  change q_W _ _ _ _ _ _ _ _ _ [.ref (a), .int (xid), .int (0)] [] _
  change q_W _ _ _ _ _ _ _ _ _ [.ref (a), .int (xid), .int (0)] [] _
  refine l_st_slotOfKnown_2 sst ho_st_n ho_st_mn (by omega) (by omega) (by omega) n 0 (by omega) (fun _ x1 => ?_) (fun zz x1 => ?_)
  · change q_W _ _ _ _ _ _ _ _ 28 [q_u, q_u, q_u] [] _
    have hE : x_st_slotOfKnown n id xid = .inr "java/util/NoSuchElementException" := by simp only [x_st_slotOfKnown, x1]
    rw [hE]
    refine q_throw kE_X8_105 kR_X8_103 rfl dX8_slotOfKnown_28 dX8_slotOfKnown_31 dX8_slotOfKnown_32 dX8_slotOfKnown_34 dX8_slotOfKnown_37 (Nat.le_of_ble_eq_true rfl) (by omega) (by omega) (by omega) ?_
    exact q_xout rfl ⟨rfl, rfl⟩ (by omega) (by omega)
  · have hE : x_st_slotOfKnown n id xid = zz := by simp only [x_st_slotOfKnown, x1]
    rw [hE]
    exact fun _ _ q9 => q9
theorem z_slot2_lt {id : Nat → Int32} {xid : Int32} {v : Nat} {z : String} : ∀ (r k : Nat), x_st_slotOfKnown_2 id xid r k = .inr (.inl v) → v < k + r := by
  intro r
  induction r with
  | zero => intro k h; simp [x_st_slotOfKnown_2] at h
  | succ r ih =>
    intro k h
    by_cases e : id k = xid
    · simp only [x_st_slotOfKnown_2, if_pos e] at h
      simp only [Sum.inr.injEq, Sum.inl.injEq] at h
      omega
    · simp only [x_st_slotOfKnown_2, if_neg e] at h
      have := ih _ h
      omega
theorem z_slot_lt {n : Nat} {id : Nat → Int32} {xid : Int32} {v : Nat} (h : x_st_slotOfKnown n id xid = .inl v) : v < n := by
  unfold x_st_slotOfKnown at h
  split at h
  · simp at h
  · next zz e =>
    subst h
    have := z_slot2_lt (z := "") n 0 e
    omega
def x_st_slotOfReply (n : Nat) (id : Nat → Int32) (mn : Nat) (xid : Int32) : Nat ⊕ String := (match x_dl_mustBeHeld mn with | (.inl v1) => (match x_st_slotOfKnown n id xid with | (.inl v3) => .inl v3 | (.inr e3) => .inr e3) | (.inr e1) => .inr e1)
set_option maxRecDepth 100000 in
set_option maxHeartbeats 8000000 in
theorem e_st_slotOfReply {g : q_G} {h : q_H} {d : Nat} {a : Nat} {n : Nat} {id : Nat → Int32} {wt : Nat → Int32} {ag : Nat → Int32} {tg : Nat → Int32} {att : Nat → Int32} {ni : Int32} {dy : Int32} {mn : Nat} {mv : Nat → Int32} {en : Int32} {wo : Int32} {br : Int32} (sst : z_S2 h a n id wt ag tg att ni dy mn mv en wo br) (xid : Int32)   (hd : 8 ≤ d) : q_Spec g mX8_slotOfReply d 2 12 [.ref (a), .int (xid)] h (q_out (q_oN (x_st_slotOfReply n id mn xid)) h) := by
  have hr_st := sst.r0
  have hb_st_n := sst.bn
  have hb_st_mn := sst.bmn
  have ho_st_n := sst.bn
  have ho_st_mn := sst.bmn
  refine q_enter (by decide +kernel) rfl rfl (Nat.le_of_ble_eq_true rfl) (fun hz => ?_)
  change q_W _ _ _ _ _ _ _ _ _ [.ref (a), .int (xid)] [] _
  refine q_aload_n (by first | assumption | omega | decide) dX8_slotOfReply_0 rfl ?_
  refine q_getf (k := 5) (v := .ref (a + 6)) kC_X8 kL_X8_30 rfl (by decide) dX8_slotOfReply_1 sst.c0 rfl ?_
  rcases x1 : x_dl_mustBeHeld mn with v1 | e1
  · have e9 := e_dl_mustBeHeld (g := g) (h := h) (d := d - 1) (sst.dl) (by omega)
    rw [x1] at e9
    refine q_invV (mc' := 1) (ms' := 6) (d' := d - 1) (as := []) dX8_slotOfReply_4 kM_X2_mustBeHeld kL_X8_108 kI_X2_mustBeHeld kS_X2_mustBeHeld rfl (kC_X2.1) sst.c6 rfl rfl (Nat.le_of_ble_eq_true rfl) (by omega) (by decide) (by omega) (by omega) (e9) (q_kR ?_) q_xR
    have f1 := z_mbh x1
    change q_W _ _ _ _ _ _ _ _ 7 [.ref (a), .int (xid)] [] _
    refine q_aload_n (by first | assumption | omega | decide) dX8_slotOfReply_7 rfl ?_
    refine q_iload_n dX8_slotOfReply_8 rfl ?_
    rcases x3 : x_st_slotOfKnown n id xid with v3 | e3
    · have e9 := e_st_slotOfKnown (g := g) (h := h) (d := d - 1) sst xid (by omega)
      rw [x3] at e9
      refine q_invV (mc' := 1) (ms' := 6) (d' := d - 1) (as := [.int (xid)]) dX8_slotOfReply_9 kM_X8_slotOfKnown kL_X8_111 kI_X8_slotOfKnown kS_X8_slotOfKnown rfl (kC_X8.1) sst.c0 rfl rfl (Nat.le_of_ble_eq_true rfl) (by omega) (by decide) (by omega) (by omega) (e9) (q_kR ?_) q_xR
      have f3 := z_slot_lt x3
      change q_W _ _ _ _ _ _ _ _ 12 [.ref (a), .int (xid)] [.int (nI (v3))] _
      have hE : x_st_slotOfReply n id mn xid = .inl v3 := by simp only [x_st_slotOfReply, x1, x3]
      rw [hE]
      exact q_ireturn dX8_slotOfReply_12 rfl rfl (by omega) (by omega) ⟨rfl, rfl⟩
    · have e9 := e_st_slotOfKnown (g := g) (h := h) (d := d - 1) sst xid (by omega)
      rw [x3] at e9
      refine q_invV (mc' := 1) (ms' := 6) (d' := d - 1) (as := [.int (xid)]) dX8_slotOfReply_9 kM_X8_slotOfKnown kL_X8_111 kI_X8_slotOfKnown kS_X8_slotOfKnown rfl (kC_X8.1) sst.c0 rfl rfl (Nat.le_of_ble_eq_true rfl) (by omega) (by decide) (by omega) (by omega) (e9) q_kT (q_xT ?_)
      have hE : x_st_slotOfReply n id mn xid = .inr e3 := by simp only [x_st_slotOfReply, x1, x3]
      rw [hE]
      exact q_xout rfl ⟨rfl, rfl⟩ (by omega) (by omega)
  · have e9 := e_dl_mustBeHeld (g := g) (h := h) (d := d - 1) (sst.dl) (by omega)
    rw [x1] at e9
    refine q_invV (mc' := 1) (ms' := 6) (d' := d - 1) (as := []) dX8_slotOfReply_4 kM_X2_mustBeHeld kL_X8_108 kI_X2_mustBeHeld kS_X2_mustBeHeld rfl (kC_X2.1) sst.c6 rfl rfl (Nat.le_of_ble_eq_true rfl) (by omega) (by decide) (by omega) (by omega) (e9) q_kT (q_xT ?_)
    have hE : x_st_slotOfReply n id mn xid = .inr e1 := by simp only [x_st_slotOfReply, x1]
    rw [hE]
    exact q_xout rfl ⟨rfl, rfl⟩ (by omega) (by omega)
theorem z_slotR_lt {n mn : Nat} {id : Nat → Int32} {xid : Int32} {v : Nat} (h : x_st_slotOfReply n id mn xid = .inl v) : v < n := by
  unfold x_st_slotOfReply at h
  split at h
  · split at h
    · simp only [Sum.inl.injEq] at h
      subst h
      next h2 => exact z_slot_lt h2
    · simp at h
  · simp at h
def x_st_countAttacks_4 (tg : Nat → Int32) : Nat → Nat → (Int32) → (Int32)
  | 0, _, c4_1 => c4_1
  | r + 1, k, c4_1 => x_st_countAttacks_4 tg r (k + 1) (c4_1 + (z_bc (tg k)))
set_option maxRecDepth 100000 in
set_option maxHeartbeats 8000000 in
theorem l_st_countAttacks_4 {g : q_G} {h : q_H} {d mc ms kc ks : Nat} {Q : q_O → q_H → Prop} {a : Nat} {n : Nat} {id : Nat → Int32} {wt : Nat → Int32} {ag : Nat → Int32} {tg : Nat → Int32} {att : Nat → Int32} {ni : Int32} {dy : Int32} {mn : Nat} {mv : Nat → Int32} {en : Int32} {wo : Int32} {br : Int32} (sst : z_S2 h a n id wt ag tg att ni dy mn mv en wo br)  (ho_st_n : n ≤ 8) (ho_st_mn : mn ≤ 12)  (hd : 1 ≤ d) (hkc : kc + 0 ≤ mc) (hks : ks + 0 ≤ ms) : ∀ (r k : Nat) (c4_1 : Int32) (hk_4 : k + r = n) (K : ∀ (r4_0 : Int32), x_st_countAttacks_4 tg r k c4_1 = r4_0 → q_W g mX8_countAttacks d mc ms Q kc ks 30 [q_u, .int (r4_0), q_u] [] h), q_W g mX8_countAttacks d mc ms Q kc ks 4 [.ref (a), .int (c4_1), .int (nI (k))] [] h := by
  intro r
  induction r with
  | zero =>
    intro k c4_1  hk_4 K
    have hr_st := sst.r0
    have hb_st_n := sst.bn
    have hb_st_mn := sst.bmn
    refine q_iload_n dX8_countAttacks_4 rfl ?_
    refine q_aload_n (by first | assumption | omega | decide) dX8_countAttacks_5 rfl ?_
    refine q_getf (k := 6) (v := .int (nI (n))) kC_X8 kL_X8_34 rfl (by decide) dX8_countAttacks_6 sst.c0 rfl ?_
    refine q_icmp_ge 30 dX8_countAttacks_9 (by decide) (fun b9 => ?_) (fun b9 => ?_)
    · have b9 := (nI_leI (a := n) (b := k) (by omega) (by omega)).mp b9
      refine q_forget 0 ?_
      refine q_forget 2 ?_
      change q_W _ _ _ _ _ _ _ _ _ [q_u, .int (c4_1), q_u] [] _
      exact K c4_1 (by simp only [x_st_countAttacks_4])
    · have b9 : ¬ (n ≤ k) := fun q => b9 ((nI_leI (a := n) (b := k) (by omega) (by omega)).mpr q)
      exact absurd b9 (by omega)
  | succ r ih =>
    intro k c4_1  hk_4 K
    have hr_st := sst.r0
    have hb_st_n := sst.bn
    have hb_st_mn := sst.bmn
    refine q_iload_n dX8_countAttacks_4 rfl ?_
    refine q_aload_n (by first | assumption | omega | decide) dX8_countAttacks_5 rfl ?_
    refine q_getf (k := 6) (v := .int (nI (n))) kC_X8 kL_X8_34 rfl (by decide) dX8_countAttacks_6 sst.c0 rfl ?_
    refine q_icmp_ge 30 dX8_countAttacks_9 (by decide) (fun b9 => ?_) (fun b9 => ?_)
    · have b9 := (nI_leI (a := n) (b := k) (by omega) (by omega)).mp b9
      exact absurd b9 (by omega)
    · have b9 : ¬ (n ≤ k) := fun q => b9 ((nI_leI (a := n) (b := k) (by omega) (by omega)).mpr q)
      refine q_iload_n dX8_countAttacks_12 rfl ?_
      refine q_aload_n (by first | assumption | omega | decide) dX8_countAttacks_13 rfl ?_
      refine q_getf (k := 3) (v := .ref (a + 4)) kC_X8 kL_X8_21 rfl (by decide) dX8_countAttacks_14 sst.c0 rfl ?_
      refine q_iload_n dX8_countAttacks_17 rfl ?_
      refine q_ialdN (j := k) (f := tg) dX8_countAttacks_18 sst.c4 (by omega) (by decide) ?_
      change q_W _ _ _ _ _ _ _ _ _ _ [.int (tg k), .int (c4_1)] _
      refine q_invS (mc' := 0) (ms' := 0) (d' := d - 1) (as := [.int (tg k)]) dX8_countAttacks_19 kM_J6_bitCount_0f7a4 kL_X8_114 kT_J6_bitCount_0f7a4 rfl rfl rfl (Nat.le_of_ble_eq_true rfl) (by omega) (by decide) (by omega) (by omega) (e_bitCount (d := d - 1)) (q_kR ?_) q_xR
      change q_W _ _ _ _ _ _ _ _ 22 [.ref (a), .int (c4_1), .int (nI (k))] [.int (z_bc (tg k)), .int (c4_1)] _
      refine q_iadd dX8_countAttacks_22 ?_
      refine q_istore_n dX8_countAttacks_23 (by decide) rfl ?_
      change q_W _ _ _ _ _ _ _ _ _ [.ref (a), .int (c4_1 + (z_bc (tg k))), .int (nI (k))] [] _
      refine q_iinc (x := nI (k)) (v := nI (k + 1)) dX8_countAttacks_24 rfl (nI_add _ 1) rfl ?_
      change q_W _ _ _ _ _ _ _ _ _ [.ref (a), .int (c4_1 + (z_bc (tg k))), .int (nI (k + 1))] [] _
      refine q_goto 4 dX8_countAttacks_27 (by decide) ?_
      change q_W _ _ _ _ _ _ _ _ _ [.ref (a), .int (c4_1 + (z_bc (tg k))), .int (nI (k + 1))] [] _
      exact ih (k + 1) (c4_1 + (z_bc (tg k))) (by omega) (fun r4_0 e9 => K r4_0 (by simp only [x_st_countAttacks_4]; exact e9))
def x_st_countAttacks (n : Nat) (tg : Nat → Int32) : Int32 := (let a1_0 := x_st_countAttacks_4 tg n 0 0; a1_0)
set_option maxRecDepth 100000 in
set_option maxHeartbeats 8000000 in
theorem e_st_countAttacks {g : q_G} {h : q_H} {d : Nat} {a : Nat} {n : Nat} {id : Nat → Int32} {wt : Nat → Int32} {ag : Nat → Int32} {tg : Nat → Int32} {att : Nat → Int32} {ni : Int32} {dy : Int32} {mn : Nat} {mv : Nat → Int32} {en : Int32} {wo : Int32} {br : Int32} (sst : z_S2 h a n id wt ag tg att ni dy mn mv en wo br)    (hd : 1 ≤ d) : q_Spec g mX8_countAttacks d 0 0 [.ref (a)] h (q_ret ((some (.int (x_st_countAttacks n tg)))) h) := by
  have hr_st := sst.r0
  have hb_st_n := sst.bn
  have hb_st_mn := sst.bmn
  have ho_st_n := sst.bn
  have ho_st_mn := sst.bmn
  refine q_enter (by decide +kernel) rfl rfl (Nat.le_of_ble_eq_true rfl) (fun hz => ?_)
  change q_W _ _ _ _ _ _ _ _ _ [.ref (a), q_u, q_u] [] _
  refine q_iconst (v := 0) dX8_countAttacks_0 rfl ?_
  refine q_istore_n dX8_countAttacks_1 (by decide) rfl ?_
  change q_W _ _ _ _ _ _ _ _ _ [.ref (a), .int (0), q_u] [] _
  refine q_iconst (v := 0) dX8_countAttacks_2 rfl ?_
  refine q_istore_n dX8_countAttacks_3 (by decide) rfl ?_
  change q_W _ _ _ _ _ _ _ _ _ [.ref (a), .int (0), .int (0)] [] _
  change q_W _ _ _ _ _ _ _ _ _ [.ref (a), .int (0), .int (0)] [] _
  refine l_st_countAttacks_4 sst ho_st_n ho_st_mn (by omega) (by omega) (by omega) n 0 0 (by omega) (fun a1_0 x1 => ?_)
  change q_W _ _ _ _ _ _ _ _ 30 [q_u, .int (a1_0), q_u] [] _
  refine q_iload_n dX8_countAttacks_30 rfl ?_
  have hE : x_st_countAttacks n tg = a1_0 := by simp only [x_st_countAttacks, x1]
  rw [hE]
  exact q_ireturn dX8_countAttacks_31 rfl rfl (by omega) (by omega) ⟨rfl, rfl⟩
def x_st_isBefore (wt : Nat → Int32) (ag : Nat → Int32) (att : Nat → Int32) (j : Nat) (i : Nat) : Bool := (if (x_st_strength wt ag j) = (x_st_strength wt ag i) then (if (z_bc (att j)) = (z_bc (att i)) then (if i ≤ j then false else true) else (if (z_bc (att i)) ≤ (z_bc (att j)) then false else true)) else (if (x_st_strength wt ag j) ≤ (x_st_strength wt ag i) then false else true))
set_option maxRecDepth 100000 in
set_option maxHeartbeats 8000000 in
theorem e_st_isBefore {g : q_G} {h : q_H} {d : Nat} {a : Nat} {n : Nat} {id : Nat → Int32} {wt : Nat → Int32} {ag : Nat → Int32} {tg : Nat → Int32} {att : Nat → Int32} {ni : Int32} {dy : Int32} {mn : Nat} {mv : Nat → Int32} {en : Int32} {wo : Int32} {br : Int32} (sst : z_S2 h a n id wt ag tg att ni dy mn mv en wo br) (j : Nat) (i : Nat) (hj : j < n) (hi : i < n)  (hd : 1 ≤ d) : q_Spec g mX8_isBefore d 0 0 [.ref (a), .int (nI (j)), .int (nI (i))] h (q_ret ((some (.int (z_b (x_st_isBefore wt ag att j i))))) h) := by
  have hr_st := sst.r0
  have hb_st_n := sst.bn
  have hb_st_mn := sst.bmn
  have ho_st_n := sst.bn
  have ho_st_mn := sst.bmn
  refine q_enter (by decide +kernel) rfl rfl (Nat.le_of_ble_eq_true rfl) (fun hz => ?_)
  change q_W _ _ _ _ _ _ _ _ _ [.ref (a), .int (nI (j)), .int (nI (i)), q_u, q_u] [] _
  refine q_aload_n (by first | assumption | omega | decide) dX8_isBefore_0 rfl ?_
  refine q_iload_n dX8_isBefore_1 rfl ?_
  refine q_invV (mc' := 0) (ms' := 0) (d' := d - 1) (as := [.int (nI (j))]) dX8_isBefore_2 kM_X8_strength kL_X8_202 kI_X8_strength kS_X8_strength rfl (kC_X8.1) sst.c0 rfl rfl (Nat.le_of_ble_eq_true rfl) (by omega) (by decide) (by omega) (by omega) (e_st_strength (d := d - 1) sst j (by omega) (by omega)) (q_kR ?_) q_xR
  change q_W _ _ _ _ _ _ _ _ 5 [.ref (a), .int (nI (j)), .int (nI (i)), q_u, q_u] [.int (x_st_strength wt ag j)] _
  refine q_aload_n (by first | assumption | omega | decide) dX8_isBefore_5 rfl ?_
  refine q_iload_n dX8_isBefore_6 rfl ?_
  refine q_invV (mc' := 0) (ms' := 0) (d' := d - 1) (as := [.int (nI (i))]) dX8_isBefore_7 kM_X8_strength kL_X8_202 kI_X8_strength kS_X8_strength rfl (kC_X8.1) sst.c0 rfl rfl (Nat.le_of_ble_eq_true rfl) (by omega) (by decide) (by omega) (by omega) (e_st_strength (d := d - 1) sst i (by omega) (by omega)) (q_kR ?_) q_xR
  change q_W _ _ _ _ _ _ _ _ 10 [.ref (a), .int (nI (j)), .int (nI (i)), q_u, q_u] [.int (x_st_strength wt ag i), .int (x_st_strength wt ag j)] _
  refine q_icmp_eq 32 dX8_isBefore_10 (by decide) (fun b10 => ?_) (fun b10 => ?_)
  · refine q_aload_n (by first | assumption | omega | decide) dX8_isBefore_32 rfl ?_
    refine q_getf (k := 4) (v := .ref (a + 5)) kC_X8 kL_X8_24 rfl (by decide) dX8_isBefore_33 sst.c0 rfl ?_
    refine q_iload_n dX8_isBefore_36 rfl ?_
    refine q_ialdN (j := j) (f := att) dX8_isBefore_37 sst.c5 (by omega) (by decide) ?_
    change q_W _ _ _ _ _ _ _ _ _ _ [.int (att j)] _
    refine q_invS (mc' := 0) (ms' := 0) (d' := d - 1) (as := [.int (att j)]) dX8_isBefore_38 kM_J6_bitCount_0f7a4 kL_X8_114 kT_J6_bitCount_0f7a4 rfl rfl rfl (Nat.le_of_ble_eq_true rfl) (by omega) (by decide) (by omega) (by omega) (e_bitCount (d := d - 1)) (q_kR ?_) q_xR
    change q_W _ _ _ _ _ _ _ _ 41 [.ref (a), .int (nI (j)), .int (nI (i)), q_u, q_u] [.int (z_bc (att j))] _
    refine q_istore_n dX8_isBefore_41 (by decide) rfl ?_
    change q_W _ _ _ _ _ _ _ _ _ [.ref (a), .int (nI (j)), .int (nI (i)), .int (z_bc (att j)), q_u] [] _
    refine q_aload_n (by first | assumption | omega | decide) dX8_isBefore_42 rfl ?_
    refine q_getf (k := 4) (v := .ref (a + 5)) kC_X8 kL_X8_24 rfl (by decide) dX8_isBefore_43 sst.c0 rfl ?_
    refine q_iload_n dX8_isBefore_46 rfl ?_
    refine q_ialdN (j := i) (f := att) dX8_isBefore_47 sst.c5 (by omega) (by decide) ?_
    change q_W _ _ _ _ _ _ _ _ _ _ [.int (att i)] _
    refine q_invS (mc' := 0) (ms' := 0) (d' := d - 1) (as := [.int (att i)]) dX8_isBefore_48 kM_J6_bitCount_0f7a4 kL_X8_114 kT_J6_bitCount_0f7a4 rfl rfl rfl (Nat.le_of_ble_eq_true rfl) (by omega) (by decide) (by omega) (by omega) (e_bitCount (d := d - 1)) (q_kR ?_) q_xR
    change q_W _ _ _ _ _ _ _ _ 51 [.ref (a), .int (nI (j)), .int (nI (i)), .int (z_bc (att j)), q_u] [.int (z_bc (att i))] _
    refine q_istore dX8_isBefore_51 (by decide) rfl ?_
    change q_W _ _ _ _ _ _ _ _ _ [.ref (a), .int (nI (j)), .int (nI (i)), .int (z_bc (att j)), .int (z_bc (att i))] [] _
    refine q_iload_n dX8_isBefore_53 rfl ?_
    refine q_iload dX8_isBefore_54 rfl ?_
    refine q_icmp_eq 71 dX8_isBefore_56 (by decide) (fun b56 => ?_) (fun b56 => ?_)
    · refine q_iload_n dX8_isBefore_71 rfl ?_
      refine q_iload_n dX8_isBefore_72 rfl ?_
      refine q_icmp_ge 80 dX8_isBefore_73 (by decide) (fun b73 => ?_) (fun b73 => ?_)
      · have b73 := (nI_leI (a := i) (b := j) (by omega) (by omega)).mp b73
        refine q_iconst (v := 0) dX8_isBefore_80 rfl ?_
        have hE : x_st_isBefore wt ag att j i = false := by simp only [x_st_isBefore, if_pos b10, if_pos b56, if_pos b73]
        rw [hE]
        exact q_ireturn dX8_isBefore_81 rfl rfl (by omega) (by omega) ⟨rfl, rfl⟩
      · have b73 : ¬ (i ≤ j) := fun q => b73 ((nI_leI (a := i) (b := j) (by omega) (by omega)).mpr q)
        refine q_iconst (v := 1) dX8_isBefore_76 rfl ?_
        refine q_goto 81 dX8_isBefore_77 (by decide) ?_
        have hE : x_st_isBefore wt ag att j i = true := by simp only [x_st_isBefore, if_pos b10, if_pos b56, if_neg b73]
        rw [hE]
        exact q_ireturn dX8_isBefore_81 rfl rfl (by omega) (by omega) ⟨rfl, rfl⟩
    · refine q_iload_n dX8_isBefore_59 rfl ?_
      refine q_iload dX8_isBefore_60 rfl ?_
      refine q_icmp_ge 69 dX8_isBefore_62 (by decide) (fun b62 => ?_) (fun b62 => ?_)
      · refine q_iconst (v := 0) dX8_isBefore_69 rfl ?_
        have hE : x_st_isBefore wt ag att j i = false := by simp only [x_st_isBefore, if_pos b10, if_neg b56, if_pos b62]
        rw [hE]
        exact q_ireturn dX8_isBefore_70 rfl rfl (by omega) (by omega) ⟨rfl, rfl⟩
      · refine q_iconst (v := 1) dX8_isBefore_65 rfl ?_
        refine q_goto 70 dX8_isBefore_66 (by decide) ?_
        have hE : x_st_isBefore wt ag att j i = true := by simp only [x_st_isBefore, if_pos b10, if_neg b56, if_neg b62]
        rw [hE]
        exact q_ireturn dX8_isBefore_70 rfl rfl (by omega) (by omega) ⟨rfl, rfl⟩
  · refine q_aload_n (by first | assumption | omega | decide) dX8_isBefore_13 rfl ?_
    refine q_iload_n dX8_isBefore_14 rfl ?_
    refine q_invV (mc' := 0) (ms' := 0) (d' := d - 1) (as := [.int (nI (j))]) dX8_isBefore_15 kM_X8_strength kL_X8_202 kI_X8_strength kS_X8_strength rfl (kC_X8.1) sst.c0 rfl rfl (Nat.le_of_ble_eq_true rfl) (by omega) (by decide) (by omega) (by omega) (e_st_strength (d := d - 1) sst j (by omega) (by omega)) (q_kR ?_) q_xR
    change q_W _ _ _ _ _ _ _ _ 18 [.ref (a), .int (nI (j)), .int (nI (i)), q_u, q_u] [.int (x_st_strength wt ag j)] _
    refine q_aload_n (by first | assumption | omega | decide) dX8_isBefore_18 rfl ?_
    refine q_iload_n dX8_isBefore_19 rfl ?_
    refine q_invV (mc' := 0) (ms' := 0) (d' := d - 1) (as := [.int (nI (i))]) dX8_isBefore_20 kM_X8_strength kL_X8_202 kI_X8_strength kS_X8_strength rfl (kC_X8.1) sst.c0 rfl rfl (Nat.le_of_ble_eq_true rfl) (by omega) (by decide) (by omega) (by omega) (e_st_strength (d := d - 1) sst i (by omega) (by omega)) (q_kR ?_) q_xR
    change q_W _ _ _ _ _ _ _ _ 23 [.ref (a), .int (nI (j)), .int (nI (i)), q_u, q_u] [.int (x_st_strength wt ag i), .int (x_st_strength wt ag j)] _
    refine q_icmp_le 30 dX8_isBefore_23 (by decide) (fun b23 => ?_) (fun b23 => ?_)
    · refine q_iconst (v := 0) dX8_isBefore_30 rfl ?_
      have hE : x_st_isBefore wt ag att j i = false := by simp only [x_st_isBefore, if_neg b10, if_pos b23]
      rw [hE]
      exact q_ireturn dX8_isBefore_31 rfl rfl (by omega) (by omega) ⟨rfl, rfl⟩
    · refine q_iconst (v := 1) dX8_isBefore_26 rfl ?_
      refine q_goto 31 dX8_isBefore_27 (by decide) ?_
      have hE : x_st_isBefore wt ag att j i = true := by simp only [x_st_isBefore, if_neg b10, if_neg b23]
      rw [hE]
      exact q_ireturn dX8_isBefore_31 rfl rfl (by omega) (by omega) ⟨rfl, rfl⟩
def x_st_rank_4 (wt : Nat → Int32) (ag : Nat → Int32) (att : Nat → Int32) (j : Nat) : Nat → Nat → (Int32) → (Int32)
  | 0, _, c4_2 => c4_2
  | r + 1, k, c4_2 => (if k = j then x_st_rank_4 wt ag att j r (k + 1) c4_2 else (if x_st_isBefore wt ag att k j then x_st_rank_4 wt ag att j r (k + 1) (c4_2 + (1)) else x_st_rank_4 wt ag att j r (k + 1) c4_2))
set_option maxRecDepth 100000 in
set_option maxHeartbeats 8000000 in
theorem l_st_rank_4 {g : q_G} {h : q_H} {d mc ms kc ks : Nat} {Q : q_O → q_H → Prop} {a : Nat} {n : Nat} {id : Nat → Int32} {wt : Nat → Int32} {ag : Nat → Int32} {tg : Nat → Int32} {att : Nat → Int32} {ni : Int32} {dy : Int32} {mn : Nat} {mv : Nat → Int32} {en : Int32} {wo : Int32} {br : Int32} {j : Nat} (sst : z_S2 h a n id wt ag tg att ni dy mn mv en wo br)  (hj : j < n) (ho_st_n : n ≤ 8) (ho_st_mn : mn ≤ 12)  (hd : 2 ≤ d) (hkc : kc + 0 ≤ mc) (hks : ks + 0 ≤ ms) : ∀ (r k : Nat) (c4_2 : Int32) (hk_4 : k + r = n) (K : ∀ (r4_0 : Int32), x_st_rank_4 wt ag att j r k c4_2 = r4_0 → q_W g mX8_rank d mc ms Q kc ks 35 [q_u, q_u, .int (r4_0), q_u] [] h), q_W g mX8_rank d mc ms Q kc ks 4 [.ref (a), .int (nI (j)), .int (c4_2), .int (nI (k))] [] h := by
  intro r
  induction r with
  | zero =>
    intro k c4_2  hk_4 K
    have hr_st := sst.r0
    have hb_st_n := sst.bn
    have hb_st_mn := sst.bmn
    refine q_iload_n dX8_rank_4 rfl ?_
    refine q_aload_n (by first | assumption | omega | decide) dX8_rank_5 rfl ?_
    refine q_getf (k := 6) (v := .int (nI (n))) kC_X8 kL_X8_34 rfl (by decide) dX8_rank_6 sst.c0 rfl ?_
    refine q_icmp_ge 35 dX8_rank_9 (by decide) (fun b9 => ?_) (fun b9 => ?_)
    · have b9 := (nI_leI (a := n) (b := k) (by omega) (by omega)).mp b9
      refine q_forget 0 ?_
      refine q_forget 1 ?_
      refine q_forget 3 ?_
      change q_W _ _ _ _ _ _ _ _ _ [q_u, q_u, .int (c4_2), q_u] [] _
      exact K c4_2 (by simp only [x_st_rank_4])
    · have b9 : ¬ (n ≤ k) := fun q => b9 ((nI_leI (a := n) (b := k) (by omega) (by omega)).mpr q)
      exact absurd b9 (by omega)
  | succ r ih =>
    intro k c4_2  hk_4 K
    have hr_st := sst.r0
    have hb_st_n := sst.bn
    have hb_st_mn := sst.bmn
    refine q_iload_n dX8_rank_4 rfl ?_
    refine q_aload_n (by first | assumption | omega | decide) dX8_rank_5 rfl ?_
    refine q_getf (k := 6) (v := .int (nI (n))) kC_X8 kL_X8_34 rfl (by decide) dX8_rank_6 sst.c0 rfl ?_
    refine q_icmp_ge 35 dX8_rank_9 (by decide) (fun b9 => ?_) (fun b9 => ?_)
    · have b9 := (nI_leI (a := n) (b := k) (by omega) (by omega)).mp b9
      exact absurd b9 (by omega)
    · have b9 : ¬ (n ≤ k) := fun q => b9 ((nI_leI (a := n) (b := k) (by omega) (by omega)).mpr q)
      refine q_iload_n dX8_rank_12 rfl ?_
      refine q_iload_n dX8_rank_13 rfl ?_
      refine q_icmp_eq 29 dX8_rank_14 (by decide) (fun b14 => ?_) (fun b14 => ?_)
      · have b14 := (nI_eq (a := k) (b := j) (by omega) (by omega)).mp b14
        refine q_iinc (x := nI (k)) (v := nI (k + 1)) dX8_rank_29 rfl (nI_add _ 1) rfl ?_
        change q_W _ _ _ _ _ _ _ _ _ [.ref (a), .int (nI (j)), .int (c4_2), .int (nI (k + 1))] [] _
        refine q_goto 4 dX8_rank_32 (by decide) ?_
        change q_W _ _ _ _ _ _ _ _ _ [.ref (a), .int (nI (j)), .int (c4_2), .int (nI (k + 1))] [] _
        exact ih (k + 1) c4_2 (by omega) (fun r4_0 e9 => K r4_0 (by simp only [x_st_rank_4, if_pos b14]; exact e9))
      · have b14 : ¬ (k = j) := fun q => b14 ((nI_eq (a := k) (b := j) (by omega) (by omega)).mpr q)
        refine q_aload_n (by first | assumption | omega | decide) dX8_rank_17 rfl ?_
        refine q_iload_n dX8_rank_18 rfl ?_
        refine q_iload_n dX8_rank_19 rfl ?_
        refine q_invV (mc' := 0) (ms' := 0) (d' := d - 1) (as := [.int (nI (k)), .int (nI (j))]) dX8_rank_20 kM_X8_isBefore kL_X8_119 kI_X8_isBefore kS_X8_isBefore rfl (kC_X8.1) sst.c0 rfl rfl (Nat.le_of_ble_eq_true rfl) (by omega) (by decide) (by omega) (by omega) (e_st_isBefore (d := d - 1) sst k j (by omega) (by omega) (by omega)) (q_kR ?_) q_xR
        change q_W _ _ _ _ _ _ _ _ 23 [.ref (a), .int (nI (j)), .int (c4_2), .int (nI (k))] [.int (z_b (x_st_isBefore wt ag att k j))] _
        refine q_if_eq 29 dX8_rank_23 (by decide) (fun b23 => ?_) (fun b23 => ?_)
        · have b23 := z_b0n b23
          refine q_iinc (x := nI (k)) (v := nI (k + 1)) dX8_rank_29 rfl (nI_add _ 1) rfl ?_
          change q_W _ _ _ _ _ _ _ _ _ [.ref (a), .int (nI (j)), .int (c4_2), .int (nI (k + 1))] [] _
          refine q_goto 4 dX8_rank_32 (by decide) ?_
          change q_W _ _ _ _ _ _ _ _ _ [.ref (a), .int (nI (j)), .int (c4_2), .int (nI (k + 1))] [] _
          exact ih (k + 1) c4_2 (by omega) (fun r4_0 e9 => K r4_0 (by simp only [x_st_rank_4, if_neg b14, if_neg b23]; exact e9))
        · have b23 := z_b1 b23
          refine q_iinc (x := c4_2) (v := c4_2 + (1)) dX8_rank_26 rfl rfl rfl ?_
          change q_W _ _ _ _ _ _ _ _ _ [.ref (a), .int (nI (j)), .int (c4_2 + (1)), .int (nI (k))] [] _
          refine q_iinc (x := nI (k)) (v := nI (k + 1)) dX8_rank_29 rfl (nI_add _ 1) rfl ?_
          change q_W _ _ _ _ _ _ _ _ _ [.ref (a), .int (nI (j)), .int (c4_2 + (1)), .int (nI (k + 1))] [] _
          refine q_goto 4 dX8_rank_32 (by decide) ?_
          change q_W _ _ _ _ _ _ _ _ _ [.ref (a), .int (nI (j)), .int (c4_2 + (1)), .int (nI (k + 1))] [] _
          exact ih (k + 1) (c4_2 + (1)) (by omega) (fun r4_0 e9 => K r4_0 (by simp only [x_st_rank_4, if_neg b14, if_pos b23]; exact e9))
def x_st_rank (n : Nat) (wt : Nat → Int32) (ag : Nat → Int32) (att : Nat → Int32) (j : Nat) : Int32 := (let a1_0 := x_st_rank_4 wt ag att j n 0 0; a1_0)
set_option maxRecDepth 100000 in
set_option maxHeartbeats 8000000 in
theorem e_st_rank {g : q_G} {h : q_H} {d : Nat} {a : Nat} {n : Nat} {id : Nat → Int32} {wt : Nat → Int32} {ag : Nat → Int32} {tg : Nat → Int32} {att : Nat → Int32} {ni : Int32} {dy : Int32} {mn : Nat} {mv : Nat → Int32} {en : Int32} {wo : Int32} {br : Int32} (sst : z_S2 h a n id wt ag tg att ni dy mn mv en wo br) (j : Nat) (hj : j < n)  (hd : 2 ≤ d) : q_Spec g mX8_rank d 0 0 [.ref (a), .int (nI (j))] h (q_ret ((some (.int (x_st_rank n wt ag att j)))) h) := by
  have hr_st := sst.r0
  have hb_st_n := sst.bn
  have hb_st_mn := sst.bmn
  have ho_st_n := sst.bn
  have ho_st_mn := sst.bmn
  refine q_enter (by decide +kernel) rfl rfl (Nat.le_of_ble_eq_true rfl) (fun hz => ?_)
  change q_W _ _ _ _ _ _ _ _ _ [.ref (a), .int (nI (j)), q_u, q_u] [] _
  refine q_iconst (v := 0) dX8_rank_0 rfl ?_
  refine q_istore_n dX8_rank_1 (by decide) rfl ?_
  change q_W _ _ _ _ _ _ _ _ _ [.ref (a), .int (nI (j)), .int (0), q_u] [] _
  refine q_iconst (v := 0) dX8_rank_2 rfl ?_
  refine q_istore_n dX8_rank_3 (by decide) rfl ?_
  change q_W _ _ _ _ _ _ _ _ _ [.ref (a), .int (nI (j)), .int (0), .int (0)] [] _
  change q_W _ _ _ _ _ _ _ _ _ [.ref (a), .int (nI (j)), .int (0), .int (0)] [] _
  refine l_st_rank_4 sst hj ho_st_n ho_st_mn (by omega) (by omega) (by omega) n 0 0 (by omega) (fun a1_0 x1 => ?_)
  change q_W _ _ _ _ _ _ _ _ 35 [q_u, q_u, .int (a1_0), q_u] [] _
  refine q_iload_n dX8_rank_35 rfl ?_
  have hE : x_st_rank n wt ag att j = a1_0 := by simp only [x_st_rank, x1]
  rw [hE]
  exact q_ireturn dX8_rank_36 rfl rfl (by omega) (by omega) ⟨rfl, rfl⟩
def x_st_isAllowed (n : Nat) (id : Nat → Int32) (att : Nat → Int32) (mn : Nat) (mv : Nat → Int32) (j : Nat) : Bool ⊕ String := (match x_st_slotOfKnown n id (x_dl_last mn mv) with | (.inl v1) => (if z_has (att v1) j then (if x_dl_isProponents mn then (if x_dl_isMovedByProponent mn mv (id j) then .inl false else .inl true) else .inl true) else .inl false) | (.inr e1) => .inr e1)
set_option maxRecDepth 100000 in
set_option maxHeartbeats 8000000 in
theorem e_st_isAllowed {g : q_G} {h : q_H} {d : Nat} {a : Nat} {n : Nat} {id : Nat → Int32} {wt : Nat → Int32} {ag : Nat → Int32} {tg : Nat → Int32} {att : Nat → Int32} {ni : Int32} {dy : Int32} {mn : Nat} {mv : Nat → Int32} {en : Int32} {wo : Int32} {br : Int32} (sst : z_S2 h a n id wt ag tg att ni dy mn mv en wo br) (j : Nat) (hj : j < n)  (hd : 8 ≤ d) : q_Spec g mX8_isAllowed d 1 6 [.ref (a), .int (nI (j))] h (q_out (q_oB (x_st_isAllowed n id att mn mv j)) h) := by
  have hr_st := sst.r0
  have hb_st_n := sst.bn
  have hb_st_mn := sst.bmn
  have ho_st_n := sst.bn
  have ho_st_mn := sst.bmn
  refine q_enter (by decide +kernel) rfl rfl (Nat.le_of_ble_eq_true rfl) (fun hz => ?_)
  change q_W _ _ _ _ _ _ _ _ _ [.ref (a), .int (nI (j)), q_u] [] _
  refine q_aload_n (by first | assumption | omega | decide) dX8_isAllowed_0 rfl ?_
  refine q_getf (k := 4) (v := .ref (a + 5)) kC_X8 kL_X8_24 rfl (by decide) dX8_isAllowed_1 sst.c0 rfl ?_
  refine q_aload_n (by first | assumption | omega | decide) dX8_isAllowed_4 rfl ?_
  refine q_aload_n (by first | assumption | omega | decide) dX8_isAllowed_5 rfl ?_
  refine q_getf (k := 5) (v := .ref (a + 6)) kC_X8 kL_X8_30 rfl (by decide) dX8_isAllowed_6 sst.c0 rfl ?_
  refine q_invV (mc' := 0) (ms' := 0) (d' := d - 1) (as := []) dX8_isAllowed_9 kM_X2_last kL_X8_123 kI_X2_last kS_X2_last rfl (kC_X2.1) sst.c6 rfl rfl (Nat.le_of_ble_eq_true rfl) (by omega) (by decide) (by omega) (by omega) (e_dl_last (d := d - 1) (sst.dl) (by omega)) (q_kR ?_) q_xR
  change q_W _ _ _ _ _ _ _ _ 12 [.ref (a), .int (nI (j)), q_u] [.int (x_dl_last mn mv), .ref (a), .ref (a + 5)] _
  rcases x1 : x_st_slotOfKnown n id (x_dl_last mn mv) with v1 | e1
  · have e9 := e_st_slotOfKnown (g := g) (h := h) (d := d - 1) sst (x_dl_last mn mv) (by omega)
    rw [x1] at e9
    refine q_invV (mc' := 1) (ms' := 6) (d' := d - 1) (as := [.int (x_dl_last mn mv)]) dX8_isAllowed_12 kM_X8_slotOfKnown kL_X8_111 kI_X8_slotOfKnown kS_X8_slotOfKnown rfl (kC_X8.1) sst.c0 rfl rfl (Nat.le_of_ble_eq_true rfl) (by omega) (by decide) (by omega) (by omega) (e9) (q_kR ?_) q_xR
    have f1 := z_slot_lt x1
    change q_W _ _ _ _ _ _ _ _ 15 [.ref (a), .int (nI (j)), q_u] [.int (nI (v1)), .ref (a + 5)] _
    refine q_ialdN (j := v1) (f := att) dX8_isAllowed_15 sst.c5 (by omega) (by decide) ?_
    change q_W _ _ _ _ _ _ _ _ _ _ [.int (att v1)] _
    refine q_istore_n dX8_isAllowed_16 (by decide) rfl ?_
    change q_W _ _ _ _ _ _ _ _ _ [.ref (a), .int (nI (j)), .int (att v1)] [] _
    refine q_iload_n dX8_isAllowed_17 rfl ?_
    refine q_iload_n dX8_isAllowed_18 rfl ?_
    refine q_invSN (mc' := 0) (ms' := 0) (d' := d - 1) (as := [.int (att v1), .int (nI (j))]) dX8_isAllowed_19 kM_X10_has kN_X8_126 kT_X10_has rfl rfl rfl (Nat.le_of_ble_eq_true rfl) (by omega) (by decide) (by omega) (by omega) (e_has (d := d - 1)) (q_kR ?_) q_xR
    change q_W _ _ _ _ _ _ _ _ 22 [.ref (a), .int (nI (j)), .int (att v1)] [.int (z_b (z_has (att v1) j))] _
    refine q_if_eq 58 dX8_isAllowed_22 (by decide) (fun b22 => ?_) (fun b22 => ?_)
    · have b22 := z_b0n b22
      refine q_iconst (v := 0) dX8_isAllowed_58 rfl ?_
      have hE : x_st_isAllowed n id att mn mv j = .inl false := by simp only [x_st_isAllowed, x1, if_neg b22]
      rw [hE]
      exact q_ireturn dX8_isAllowed_59 rfl rfl (by omega) (by omega) ⟨rfl, rfl⟩
    · have b22 := z_b1 b22
      refine q_aload_n (by first | assumption | omega | decide) dX8_isAllowed_25 rfl ?_
      refine q_getf (k := 5) (v := .ref (a + 6)) kC_X8 kL_X8_30 rfl (by decide) dX8_isAllowed_26 sst.c0 rfl ?_
      refine q_getf (k := 1) (v := .int (nI (mn))) kC_X2 kL_X8_129 rfl (by decide) dX8_isAllowed_29 sst.c6 rfl ?_
      refine q_invS (mc' := 0) (ms' := 0) (d' := d - 1) (as := [.int (nI (mn))]) dX8_isAllowed_32 kM_X2_isProponents kL_X8_130 kT_X2_isProponents rfl rfl rfl (Nat.le_of_ble_eq_true rfl) (by omega) (by decide) (by omega) (by omega) (e_dl_isProponents (d := d - 1) mn (by omega) (by omega)) (q_kR ?_) q_xR
      change q_W _ _ _ _ _ _ _ _ 35 [.ref (a), .int (nI (j)), .int (att v1)] [.int (z_b (x_dl_isProponents mn))] _
      refine q_if_eq 54 dX8_isAllowed_35 (by decide) (fun b35 => ?_) (fun b35 => ?_)
      · have b35 := z_b0n b35
        refine q_iconst (v := 1) dX8_isAllowed_54 rfl ?_
        refine q_goto 59 dX8_isAllowed_55 (by decide) ?_
        have hE : x_st_isAllowed n id att mn mv j = .inl true := by simp only [x_st_isAllowed, x1, if_pos b22, if_neg b35]
        rw [hE]
        exact q_ireturn dX8_isAllowed_59 rfl rfl (by omega) (by omega) ⟨rfl, rfl⟩
      · have b35 := z_b1 b35
        refine q_aload_n (by first | assumption | omega | decide) dX8_isAllowed_38 rfl ?_
        refine q_getf (k := 5) (v := .ref (a + 6)) kC_X8 kL_X8_30 rfl (by decide) dX8_isAllowed_39 sst.c0 rfl ?_
        refine q_aload_n (by first | assumption | omega | decide) dX8_isAllowed_42 rfl ?_
        refine q_getf (k := 0) (v := .ref (a + 1)) kC_X8 kL_X8_9 rfl (by decide) dX8_isAllowed_43 sst.c0 rfl ?_
        refine q_iload_n dX8_isAllowed_46 rfl ?_
        refine q_ialdN (j := j) (f := id) dX8_isAllowed_47 sst.c1 (by omega) (by decide) ?_
        change q_W _ _ _ _ _ _ _ _ _ _ [.int (id j), .ref (a + 6)] _
        refine q_invV (mc' := 0) (ms' := 0) (d' := d - 1) (as := [.int (id j)]) dX8_isAllowed_48 kM_X2_isMovedByProponent kL_X8_134 kI_X2_isMovedByProponent kS_X2_isMovedByProponent rfl (kC_X2.1) sst.c6 rfl rfl (Nat.le_of_ble_eq_true rfl) (by omega) (by decide) (by omega) (by omega) (e_dl_isMovedByProponent (d := d - 1) (sst.dl) (id j) (by omega)) (q_kR ?_) q_xR
        change q_W _ _ _ _ _ _ _ _ 51 [.ref (a), .int (nI (j)), .int (att v1)] [.int (z_b (x_dl_isMovedByProponent mn mv (id j)))] _
        refine q_if_ne 58 dX8_isAllowed_51 (by decide) (fun b51 => ?_) (fun b51 => ?_)
        · have b51 := z_b1 b51
          refine q_iconst (v := 0) dX8_isAllowed_58 rfl ?_
          have hE : x_st_isAllowed n id att mn mv j = .inl false := by simp only [x_st_isAllowed, x1, if_pos b22, if_pos b35, if_pos b51]
          rw [hE]
          exact q_ireturn dX8_isAllowed_59 rfl rfl (by omega) (by omega) ⟨rfl, rfl⟩
        · have b51 := z_b0n b51
          refine q_iconst (v := 1) dX8_isAllowed_54 rfl ?_
          refine q_goto 59 dX8_isAllowed_55 (by decide) ?_
          have hE : x_st_isAllowed n id att mn mv j = .inl true := by simp only [x_st_isAllowed, x1, if_pos b22, if_pos b35, if_neg b51]
          rw [hE]
          exact q_ireturn dX8_isAllowed_59 rfl rfl (by omega) (by omega) ⟨rfl, rfl⟩
  · have e9 := e_st_slotOfKnown (g := g) (h := h) (d := d - 1) sst (x_dl_last mn mv) (by omega)
    rw [x1] at e9
    refine q_invV (mc' := 1) (ms' := 6) (d' := d - 1) (as := [.int (x_dl_last mn mv)]) dX8_isAllowed_12 kM_X8_slotOfKnown kL_X8_111 kI_X8_slotOfKnown kS_X8_slotOfKnown rfl (kC_X8.1) sst.c0 rfl rfl (Nat.le_of_ble_eq_true rfl) (by omega) (by decide) (by omega) (by omega) (e9) q_kT (q_xT ?_)
    have hE : x_st_isAllowed n id att mn mv j = .inr e1 := by simp only [x_st_isAllowed, x1]
    rw [hE]
    exact q_xout rfl ⟨rfl, rfl⟩ (by omega) (by omega)
def x_st_findAttackers_17 (wt : Nat → Int32) (ag : Nat → Int32) (tg : Nat → Int32) (k : Nat) : Nat → Nat → (Int32) → (Int32)
  | 0, _, c17_3 => c17_3
  | r + 1, kk, c17_3 => (if z_has (tg kk) k then (if (x_st_strength wt ag kk) < (x_st_strength wt ag k) then x_st_findAttackers_17 wt ag tg k r (kk + 1) c17_3 else x_st_findAttackers_17 wt ag tg k r (kk + 1) (c17_3 ||| ((1 : Int32) <<< ((nI (kk)) &&& 31)))) else x_st_findAttackers_17 wt ag tg k r (kk + 1) c17_3)
set_option maxRecDepth 100000 in
set_option maxHeartbeats 8000000 in
theorem l_st_findAttackers_17 {g : q_G} {h hh : q_H} {d mc ms kc ks : Nat} {Q : q_O → q_H → Prop} {a : Nat} {n : Nat} {id : Nat → Int32} {wt : Nat → Int32} {ag : Nat → Int32} {tg : Nat → Int32} {ni : Int32} {dy : Int32} {mn : Nat} {mv : Nat → Int32} {en : Int32} {wo : Int32} {br : Int32} {k : Nat} {c4_1 : Int32} {att_4 : Nat → Int32} (sst_4 : z_S2 hh a n id wt ag tg att_4 ni dy mn mv en wo br) (pH : q_same h hh a 8)  (ho_st_n : n ≤ 8) (ho_st_mn : mn ≤ 12) (b9 : ¬ (n ≤ k))  (hd : 1 ≤ d) (hkc : kc + 0 ≤ mc) (hks : ks + 0 ≤ ms) : ∀ (r kk : Nat) (c17_3 : Int32) (hk_17 : kk + r = n) (K : ∀ (r17_0 : Int32), x_st_findAttackers_17 wt ag tg k r kk c17_3 = r17_0 → q_W g mX8_findAttackers d mc ms Q kc ks 67 [.ref (a), .int (c4_1), .int (nI (k)), .int (r17_0), q_u] [] hh), q_W g mX8_findAttackers d mc ms Q kc ks 17 [.ref (a), .int (c4_1), .int (nI (k)), .int (c17_3), .int (nI (kk))] [] hh := by
  intro r
  induction r with
  | zero =>
    intro kk c17_3  hk_17 K
    have hr_st := sst_4.r0
    have hb_st_n := sst_4.bn
    have hb_st_mn := sst_4.bmn
    refine q_iload dX8_findAttackers_17 rfl ?_
    refine q_aload_n (by first | assumption | omega | decide) dX8_findAttackers_19 rfl ?_
    refine q_getf (k := 6) (v := .int (nI (n))) kC_X8 kL_X8_34 rfl (by decide) dX8_findAttackers_20 sst_4.c0 rfl ?_
    refine q_icmp_ge 67 dX8_findAttackers_23 (by decide) (fun b23 => ?_) (fun b23 => ?_)
    · have b23 := (nI_leI (a := n) (b := kk) (by omega) (by omega)).mp b23
      refine q_forget 4 ?_
      change q_W _ _ _ _ _ _ _ _ _ [.ref (a), .int (c4_1), .int (nI (k)), .int (c17_3), q_u] [] _
      exact K c17_3 (by simp only [x_st_findAttackers_17])
    · have b23 : ¬ (n ≤ kk) := fun q => b23 ((nI_leI (a := n) (b := kk) (by omega) (by omega)).mpr q)
      exact absurd b23 (by omega)
  | succ r ih =>
    intro kk c17_3  hk_17 K
    have hr_st := sst_4.r0
    have hb_st_n := sst_4.bn
    have hb_st_mn := sst_4.bmn
    refine q_iload dX8_findAttackers_17 rfl ?_
    refine q_aload_n (by first | assumption | omega | decide) dX8_findAttackers_19 rfl ?_
    refine q_getf (k := 6) (v := .int (nI (n))) kC_X8 kL_X8_34 rfl (by decide) dX8_findAttackers_20 sst_4.c0 rfl ?_
    refine q_icmp_ge 67 dX8_findAttackers_23 (by decide) (fun b23 => ?_) (fun b23 => ?_)
    · have b23 := (nI_leI (a := n) (b := kk) (by omega) (by omega)).mp b23
      exact absurd b23 (by omega)
    · have b23 : ¬ (n ≤ kk) := fun q => b23 ((nI_leI (a := n) (b := kk) (by omega) (by omega)).mpr q)
      refine q_aload_n (by first | assumption | omega | decide) dX8_findAttackers_26 rfl ?_
      refine q_getf (k := 3) (v := .ref (a + 4)) kC_X8 kL_X8_21 rfl (by decide) dX8_findAttackers_27 sst_4.c0 rfl ?_
      refine q_iload dX8_findAttackers_30 rfl ?_
      refine q_ialdN (j := kk) (f := tg) dX8_findAttackers_32 sst_4.c4 (by omega) (by decide) ?_
      change q_W _ _ _ _ _ _ _ _ _ _ [.int (tg kk)] _
      refine q_iload_n dX8_findAttackers_33 rfl ?_
      refine q_invSN (mc' := 0) (ms' := 0) (d' := d - 1) (as := [.int (tg kk), .int (nI (k))]) dX8_findAttackers_34 kM_X10_has kN_X8_126 kT_X10_has rfl rfl rfl (Nat.le_of_ble_eq_true rfl) (by omega) (by decide) (by omega) (by omega) (e_has (d := d - 1)) (q_kR ?_) q_xR
      change q_W _ _ _ _ _ _ _ _ 37 [.ref (a), .int (c4_1), .int (nI (k)), .int (c17_3), .int (nI (kk))] [.int (z_b (z_has (tg kk) k))] _
      refine q_if_eq 61 dX8_findAttackers_37 (by decide) (fun b37 => ?_) (fun b37 => ?_)
      · have b37 := z_b0n b37
        refine q_iinc (x := nI (kk)) (v := nI (kk + 1)) dX8_findAttackers_61 rfl (nI_add _ 1) rfl ?_
        change q_W _ _ _ _ _ _ _ _ _ [.ref (a), .int (c4_1), .int (nI (k)), .int (c17_3), .int (nI (kk + 1))] [] _
        refine q_goto 17 dX8_findAttackers_64 (by decide) ?_
        change q_W _ _ _ _ _ _ _ _ _ [.ref (a), .int (c4_1), .int (nI (k)), .int (c17_3), .int (nI (kk + 1))] [] _
        exact ih (kk + 1) c17_3 (by omega) (fun r17_0 e9 => K r17_0 (by simp only [x_st_findAttackers_17, if_neg b37]; exact e9))
      · have b37 := z_b1 b37
        refine q_aload_n (by first | assumption | omega | decide) dX8_findAttackers_40 rfl ?_
        refine q_iload dX8_findAttackers_41 rfl ?_
        refine q_invV (mc' := 0) (ms' := 0) (d' := d - 1) (as := [.int (nI (kk))]) dX8_findAttackers_43 kM_X8_strength kL_X8_202 kI_X8_strength kS_X8_strength rfl (kC_X8.1) sst_4.c0 rfl rfl (Nat.le_of_ble_eq_true rfl) (by omega) (by decide) (by omega) (by omega) (e_st_strength (d := d - 1) sst_4 kk (by omega) (by omega)) (q_kR ?_) q_xR
        change q_W _ _ _ _ _ _ _ _ 46 [.ref (a), .int (c4_1), .int (nI (k)), .int (c17_3), .int (nI (kk))] [.int (x_st_strength wt ag kk)] _
        refine q_aload_n (by first | assumption | omega | decide) dX8_findAttackers_46 rfl ?_
        refine q_iload_n dX8_findAttackers_47 rfl ?_
        refine q_invV (mc' := 0) (ms' := 0) (d' := d - 1) (as := [.int (nI (k))]) dX8_findAttackers_48 kM_X8_strength kL_X8_202 kI_X8_strength kS_X8_strength rfl (kC_X8.1) sst_4.c0 rfl rfl (Nat.le_of_ble_eq_true rfl) (by omega) (by decide) (by omega) (by omega) (e_st_strength (d := d - 1) sst_4 k (by omega) (by omega)) (q_kR ?_) q_xR
        change q_W _ _ _ _ _ _ _ _ 51 [.ref (a), .int (c4_1), .int (nI (k)), .int (c17_3), .int (nI (kk))] [.int (x_st_strength wt ag k), .int (x_st_strength wt ag kk)] _
        refine q_icmp_lt 61 dX8_findAttackers_51 (by decide) (fun b51 => ?_) (fun b51 => ?_)
        · refine q_iinc (x := nI (kk)) (v := nI (kk + 1)) dX8_findAttackers_61 rfl (nI_add _ 1) rfl ?_
          change q_W _ _ _ _ _ _ _ _ _ [.ref (a), .int (c4_1), .int (nI (k)), .int (c17_3), .int (nI (kk + 1))] [] _
          refine q_goto 17 dX8_findAttackers_64 (by decide) ?_
          change q_W _ _ _ _ _ _ _ _ _ [.ref (a), .int (c4_1), .int (nI (k)), .int (c17_3), .int (nI (kk + 1))] [] _
          exact ih (kk + 1) c17_3 (by omega) (fun r17_0 e9 => K r17_0 (by simp only [x_st_findAttackers_17, if_pos b37, if_pos b51]; exact e9))
        · refine q_iload_n dX8_findAttackers_54 rfl ?_
          refine q_iconst (v := 1) dX8_findAttackers_55 rfl ?_
          refine q_iload dX8_findAttackers_56 rfl ?_
          refine q_ishl dX8_findAttackers_58 ?_
          refine q_ior dX8_findAttackers_59 ?_
          refine q_istore_n dX8_findAttackers_60 (by decide) rfl ?_
          change q_W _ _ _ _ _ _ _ _ _ [.ref (a), .int (c4_1), .int (nI (k)), .int (c17_3 ||| ((1 : Int32) <<< ((nI (kk)) &&& 31))), .int (nI (kk))] [] _
          refine q_iinc (x := nI (kk)) (v := nI (kk + 1)) dX8_findAttackers_61 rfl (nI_add _ 1) rfl ?_
          change q_W _ _ _ _ _ _ _ _ _ [.ref (a), .int (c4_1), .int (nI (k)), .int (c17_3 ||| ((1 : Int32) <<< ((nI (kk)) &&& 31))), .int (nI (kk + 1))] [] _
          refine q_goto 17 dX8_findAttackers_64 (by decide) ?_
          change q_W _ _ _ _ _ _ _ _ _ [.ref (a), .int (c4_1), .int (nI (k)), .int (c17_3 ||| ((1 : Int32) <<< ((nI (kk)) &&& 31))), .int (nI (kk + 1))] [] _
          exact ih (kk + 1) (c17_3 ||| ((1 : Int32) <<< ((nI (kk)) &&& 31))) (by omega) (fun r17_0 e9 => K r17_0 (by simp only [x_st_findAttackers_17, if_pos b37, if_neg b51]; exact e9))
def x_st_findAttackers_4 (n : Nat) (wt : Nat → Int32) (ag : Nat → Int32) (tg : Nat → Int32) : Nat → Nat → (Int32) → (Nat → Int32) → (Int32) × (Nat → Int32)
  | 0, _, c4_1, att_4 => (c4_1, att_4)
  | r + 1, k, c4_1, att_4 => (let a1_0 := x_st_findAttackers_17 wt ag tg k n 0 0; x_st_findAttackers_4 n wt ag tg r (k + 1) (c4_1 + (z_bc (a1_0 ^^^ (att_4 k)))) (upd att_4 k (a1_0)))
set_option maxRecDepth 100000 in
set_option maxHeartbeats 8000000 in
theorem l_st_findAttackers_4 {g : q_G} {h : q_H} {d mc ms kc ks : Nat} {Q : q_O → q_H → Prop} {a : Nat} {n : Nat} {id : Nat → Int32} {wt : Nat → Int32} {ag : Nat → Int32} {tg : Nat → Int32} {ni : Int32} {dy : Int32} {mn : Nat} {mv : Nat → Int32} {en : Int32} {wo : Int32} {br : Int32}  (hr_st : q_R0 ≤ a) (ho_st_n : n ≤ 8) (ho_st_mn : mn ≤ 12)  (hd : 1 ≤ d) (hkc : kc + 0 ≤ mc) (hks : ks + 0 ≤ ms) : ∀ (r k : Nat) (c4_1 : Int32) (att_4 : Nat → Int32) (hh : q_H) (sst_4 : z_S2 hh a n id wt ag tg att_4 ni dy mn mv en wo br) (pH : q_same h hh a 8) (hk_4 : k + r = n) (K : ∀ (r4_0 : Int32) (r4_1 : Nat → Int32), x_st_findAttackers_4 n wt ag tg r k c4_1 att_4 = (r4_0, r4_1) → ∀ h2, z_S2 h2 a n id wt ag tg r4_1 ni dy mn mv en wo br → q_same h h2 a 8 → q_W g mX8_findAttackers d mc ms Q kc ks 94 [q_u, .int (r4_0), q_u, q_u, q_u] [] h2), q_W g mX8_findAttackers d mc ms Q kc ks 4 [.ref (a), .int (c4_1), .int (nI (k)), q_u, q_u] [] hh := by
  intro r
  induction r with
  | zero =>
    intro k c4_1 att_4 hh sst_4 pH hk_4 K
    have hr_st := sst_4.r0
    have hb_st_n := sst_4.bn
    have hb_st_mn := sst_4.bmn
    refine q_iload_n dX8_findAttackers_4 rfl ?_
    refine q_aload_n (by first | assumption | omega | decide) dX8_findAttackers_5 rfl ?_
    refine q_getf (k := 6) (v := .int (nI (n))) kC_X8 kL_X8_34 rfl (by decide) dX8_findAttackers_6 sst_4.c0 rfl ?_
    refine q_icmp_ge 94 dX8_findAttackers_9 (by decide) (fun b9 => ?_) (fun b9 => ?_)
    · have b9 := (nI_leI (a := n) (b := k) (by omega) (by omega)).mp b9
      refine q_forget 0 ?_
      refine q_forget 2 ?_
      change q_W _ _ _ _ _ _ _ _ _ [q_u, .int (c4_1), q_u, q_u, q_u] [] _
      exact K c4_1 att_4 (by simp only [x_st_findAttackers_4]) hh sst_4 pH
    · have b9 : ¬ (n ≤ k) := fun q => b9 ((nI_leI (a := n) (b := k) (by omega) (by omega)).mpr q)
      exact absurd b9 (by omega)
  | succ r ih =>
    intro k c4_1 att_4 hh sst_4 pH hk_4 K
    have hr_st := sst_4.r0
    have hb_st_n := sst_4.bn
    have hb_st_mn := sst_4.bmn
    refine q_iload_n dX8_findAttackers_4 rfl ?_
    refine q_aload_n (by first | assumption | omega | decide) dX8_findAttackers_5 rfl ?_
    refine q_getf (k := 6) (v := .int (nI (n))) kC_X8 kL_X8_34 rfl (by decide) dX8_findAttackers_6 sst_4.c0 rfl ?_
    refine q_icmp_ge 94 dX8_findAttackers_9 (by decide) (fun b9 => ?_) (fun b9 => ?_)
    · have b9 := (nI_leI (a := n) (b := k) (by omega) (by omega)).mp b9
      exact absurd b9 (by omega)
    · have b9 : ¬ (n ≤ k) := fun q => b9 ((nI_leI (a := n) (b := k) (by omega) (by omega)).mpr q)
      refine q_iconst (v := 0) dX8_findAttackers_12 rfl ?_
      refine q_istore_n dX8_findAttackers_13 (by decide) rfl ?_
      change q_W _ _ _ _ _ _ _ _ _ [.ref (a), .int (c4_1), .int (nI (k)), .int (0), q_u] [] _
      refine q_iconst (v := 0) dX8_findAttackers_14 rfl ?_
      refine q_istore dX8_findAttackers_15 (by decide) rfl ?_
      change q_W _ _ _ _ _ _ _ _ _ [.ref (a), .int (c4_1), .int (nI (k)), .int (0), .int (0)] [] _
      change q_W _ _ _ _ _ _ _ _ _ [.ref (a), .int (c4_1), .int (nI (k)), .int (0), .int (0)] [] _
      refine l_st_findAttackers_17 sst_4 pH ho_st_n ho_st_mn b9 (by omega) (by omega) (by omega) n 0 0 (by omega) (fun a1_0 x1 => ?_)
      change q_W _ _ _ _ _ _ _ _ 67 [.ref (a), .int (c4_1), .int (nI (k)), .int (a1_0), q_u] [] _
      refine q_iload_n dX8_findAttackers_67 rfl ?_
      refine q_iload_n dX8_findAttackers_68 rfl ?_
      refine q_aload_n (by first | assumption | omega | decide) dX8_findAttackers_69 rfl ?_
      refine q_getf (k := 4) (v := .ref (a + 5)) kC_X8 kL_X8_24 rfl (by decide) dX8_findAttackers_70 sst_4.c0 rfl ?_
      refine q_iload_n dX8_findAttackers_73 rfl ?_
      refine q_ialdN (j := k) (f := att_4) dX8_findAttackers_74 sst_4.c5 (by omega) (by decide) ?_
      change q_W _ _ _ _ _ _ _ _ _ _ [.int (att_4 k), .int (a1_0), .int (c4_1)] _
      refine q_ixor dX8_findAttackers_75 ?_
      refine q_invS (mc' := 0) (ms' := 0) (d' := d - 1) (as := [.int (a1_0 ^^^ (att_4 k))]) dX8_findAttackers_76 kM_J6_bitCount_0f7a4 kL_X8_114 kT_J6_bitCount_0f7a4 rfl rfl rfl (Nat.le_of_ble_eq_true rfl) (by omega) (by decide) (by omega) (by omega) (e_bitCount (d := d - 1)) (q_kR ?_) q_xR
      change q_W _ _ _ _ _ _ _ _ 79 [.ref (a), .int (c4_1), .int (nI (k)), .int (a1_0), q_u] [.int (z_bc (a1_0 ^^^ (att_4 k))), .int (c4_1)] _
      refine q_iadd dX8_findAttackers_79 ?_
      refine q_istore_n dX8_findAttackers_80 (by decide) rfl ?_
      change q_W _ _ _ _ _ _ _ _ _ [.ref (a), .int (c4_1 + (z_bc (a1_0 ^^^ (att_4 k)))), .int (nI (k)), .int (a1_0), q_u] [] _
      refine q_aload_n (by first | assumption | omega | decide) dX8_findAttackers_81 rfl ?_
      refine q_getf (k := 4) (v := .ref (a + 5)) kC_X8 kL_X8_24 rfl (by decide) dX8_findAttackers_82 sst_4.c0 rfl ?_
      refine q_iload_n dX8_findAttackers_85 rfl ?_
      refine q_iload_n dX8_findAttackers_86 rfl ?_
      refine q_iastN (j := k) dX8_findAttackers_87 sst_4.c5 (by omega) (by decide) ?_
      refine z_genW (B := fun H => z_S2 H a n id wt ag tg (upd att_4 k (a1_0)) ni dy mn mv en wo br ∧ q_same h H a 8) ⟨z_S2.put5 sst_4, pH.trans (q_same.set (by omega) (by omega))⟩ (fun h3 hB => ?_)
      obtain ⟨sst3, p3⟩ := hB
      have hb_st_n := sst3.bn
      have hb_st_mn := sst3.bmn
      refine q_iinc (x := nI (k)) (v := nI (k + 1)) dX8_findAttackers_88 rfl (nI_add _ 1) rfl ?_
      change q_W _ _ _ _ _ _ _ _ _ [.ref (a), .int (c4_1 + (z_bc (a1_0 ^^^ (att_4 k)))), .int (nI (k + 1)), .int (a1_0), q_u] [] _
      refine q_goto 4 dX8_findAttackers_91 (by decide) ?_
      refine q_forget 3 ?_
      change q_W _ _ _ _ _ _ _ _ _ [.ref (a), .int (c4_1 + (z_bc (a1_0 ^^^ (att_4 k)))), .int (nI (k + 1)), q_u, q_u] [] _
      exact ih (k + 1) (c4_1 + (z_bc (a1_0 ^^^ (att_4 k)))) (upd att_4 k (a1_0)) h3 sst3 p3 (by omega) (fun r4_0 r4_1 e9 => K r4_0 r4_1 (by simp only [x_st_findAttackers_4, x1]; exact e9))
def x_st_findAttackers (n : Nat) (wt : Nat → Int32) (ag : Nat → Int32) (tg : Nat → Int32) (att : Nat → Int32) : (Int32) × (Nat → Int32) := (match x_st_findAttackers_4 n wt ag tg n 0 0 att with | (a4_0, a4_1) => (a4_0, a4_1))
set_option maxRecDepth 100000 in
set_option maxHeartbeats 8000000 in
theorem e_st_findAttackers {g : q_G} {h : q_H} {d : Nat} {a : Nat} {n : Nat} {id : Nat → Int32} {wt : Nat → Int32} {ag : Nat → Int32} {tg : Nat → Int32} {att : Nat → Int32} {ni : Int32} {dy : Int32} {mn : Nat} {mv : Nat → Int32} {en : Int32} {wo : Int32} {br : Int32} (sst : z_S2 h a n id wt ag tg att ni dy mn mv en wo br)    (hd : 1 ≤ d) : q_Spec g mX8_findAttackers d 0 0 [.ref (a)] h (q_chg (.inl (some (.int (x_st_findAttackers n wt ag tg att).1))) (fun h1 => z_S2 h1 a n id wt ag tg ((x_st_findAttackers n wt ag tg att).2) ni dy mn mv en wo br ∧ q_same h h1 a 8)) := by
  have hr_st := sst.r0
  have hb_st_n := sst.bn
  have hb_st_mn := sst.bmn
  have ho_st_n := sst.bn
  have ho_st_mn := sst.bmn
  have p0 : q_same h h a 8 := q_same.rfl'
  refine q_enter (by decide +kernel) rfl rfl (Nat.le_of_ble_eq_true rfl) (fun hz => ?_)
  change q_W _ _ _ _ _ _ _ _ _ [.ref (a), q_u, q_u, q_u, q_u] [] _
  refine q_iconst (v := 0) dX8_findAttackers_0 rfl ?_
  refine q_istore_n dX8_findAttackers_1 (by decide) rfl ?_
  change q_W _ _ _ _ _ _ _ _ _ [.ref (a), .int (0), q_u, q_u, q_u] [] _
  refine q_iconst (v := 0) dX8_findAttackers_2 rfl ?_
  refine q_istore_n dX8_findAttackers_3 (by decide) rfl ?_
  change q_W _ _ _ _ _ _ _ _ _ [.ref (a), .int (0), .int (0), q_u, q_u] [] _
  change q_W _ _ _ _ _ _ _ _ _ [.ref (a), .int (0), .int (0), q_u, q_u] [] _
  refine l_st_findAttackers_4 hr_st ho_st_n ho_st_mn (by omega) (by omega) (by omega) n 0 0 att h sst p0 (by omega) (fun a4_0 a4_1 x4 h5 sst5 p5 => ?_)
  have hb_st_n := sst5.bn
  have hb_st_mn := sst5.bmn
  change q_W _ _ _ _ _ _ _ _ 94 [q_u, .int (a4_0), q_u, q_u, q_u] [] _
  refine q_iload_n dX8_findAttackers_94 rfl ?_
  have hE : x_st_findAttackers n wt ag tg att = (a4_0, a4_1) := by simp only [x_st_findAttackers, x4]
  rw [hE]
  exact q_ireturn dX8_findAttackers_95 rfl rfl (by omega) (by omega) ⟨rfl, sst5, p5⟩
def x_st_age_12 (ds : Int32) : Nat → Nat → (Nat → Int32) → (Nat → Int32)
  | 0, _, ag_12 => ag_12
  | r + 1, k, ag_12 => x_st_age_12 ds r (k + 1) (upd ag_12 k ((if (ag_12 k) + ds < 90 then (ag_12 k) + ds else 90)))
set_option maxRecDepth 100000 in
set_option maxHeartbeats 8000000 in
theorem l_st_age_12 {g : q_G} {h : q_H} {d mc ms kc ks : Nat} {Q : q_O → q_H → Prop} {a : Nat} {n : Nat} {id : Nat → Int32} {wt : Nat → Int32} {tg : Nat → Int32} {att : Nat → Int32} {ni : Int32} {dy : Int32} {mn : Nat} {mv : Nat → Int32} {en : Int32} {wo : Int32} {br : Int32} {ds : Int32}  (hr_st : q_R0 ≤ a) (ho_st_n : n ≤ 8) (ho_st_mn : mn ≤ 12)  (hd : 1 ≤ d) (hkc : kc + 0 ≤ mc) (hks : ks + 0 ≤ ms) : ∀ (r k : Nat) (ag_12 : Nat → Int32) (hh : q_H) (sst_12 : z_S2 hh a n id wt ag_12 tg att ni (dy + ds) mn mv en wo br) (pH : q_same h hh a 8) (hk_12 : k + r = n) (K : ∀ (r12_0 : Nat → Int32), x_st_age_12 ds r k ag_12 = r12_0 → ∀ h2, z_S2 h2 a n id wt r12_0 tg att ni (dy + ds) mn mv en wo br → q_same h h2 a 8 → q_W g mX8_age d mc ms Q kc ks 45 [.ref (a), q_u, q_u] [] h2), q_W g mX8_age d mc ms Q kc ks 12 [.ref (a), .int (ds), .int (nI (k))] [] hh := by
  intro r
  induction r with
  | zero =>
    intro k ag_12 hh sst_12 pH hk_12 K
    have hr_st := sst_12.r0
    have hb_st_n := sst_12.bn
    have hb_st_mn := sst_12.bmn
    refine q_iload_n dX8_age_12 rfl ?_
    refine q_aload_n (by first | assumption | omega | decide) dX8_age_13 rfl ?_
    refine q_getf (k := 6) (v := .int (nI (n))) kC_X8 kL_X8_34 rfl (by decide) dX8_age_14 sst_12.c0 rfl ?_
    refine q_icmp_ge 45 dX8_age_17 (by decide) (fun b17 => ?_) (fun b17 => ?_)
    · have b17 := (nI_leI (a := n) (b := k) (by omega) (by omega)).mp b17
      refine q_forget 1 ?_
      refine q_forget 2 ?_
      change q_W _ _ _ _ _ _ _ _ _ [.ref (a), q_u, q_u] [] _
      exact K ag_12 (by simp only [x_st_age_12]) hh sst_12 pH
    · have b17 : ¬ (n ≤ k) := fun q => b17 ((nI_leI (a := n) (b := k) (by omega) (by omega)).mpr q)
      exact absurd b17 (by omega)
  | succ r ih =>
    intro k ag_12 hh sst_12 pH hk_12 K
    have hr_st := sst_12.r0
    have hb_st_n := sst_12.bn
    have hb_st_mn := sst_12.bmn
    refine q_iload_n dX8_age_12 rfl ?_
    refine q_aload_n (by first | assumption | omega | decide) dX8_age_13 rfl ?_
    refine q_getf (k := 6) (v := .int (nI (n))) kC_X8 kL_X8_34 rfl (by decide) dX8_age_14 sst_12.c0 rfl ?_
    refine q_icmp_ge 45 dX8_age_17 (by decide) (fun b17 => ?_) (fun b17 => ?_)
    · have b17 := (nI_leI (a := n) (b := k) (by omega) (by omega)).mp b17
      exact absurd b17 (by omega)
    · have b17 : ¬ (n ≤ k) := fun q => b17 ((nI_leI (a := n) (b := k) (by omega) (by omega)).mpr q)
      refine q_aload_n (by first | assumption | omega | decide) dX8_age_20 rfl ?_
      refine q_getf (k := 2) (v := .ref (a + 3)) kC_X8 kL_X8_18 rfl (by decide) dX8_age_21 sst_12.c0 rfl ?_
      refine q_iload_n dX8_age_24 rfl ?_
      refine q_bipush (v := 90) dX8_age_25 rfl ?_
      refine q_aload_n (by first | assumption | omega | decide) dX8_age_27 rfl ?_
      refine q_getf (k := 2) (v := .ref (a + 3)) kC_X8 kL_X8_18 rfl (by decide) dX8_age_28 sst_12.c0 rfl ?_
      refine q_iload_n dX8_age_31 rfl ?_
      refine q_ialdN (j := k) (f := ag_12) dX8_age_32 sst_12.c3 (by omega) (by decide) ?_
      change q_W _ _ _ _ _ _ _ _ _ _ [.int (ag_12 k), .int (90), .int (nI (k)), .ref (a + 3)] _
      refine q_iload_n dX8_age_33 rfl ?_
      refine q_iadd dX8_age_34 ?_
      refine q_mmin kL_X8_137 kT_J9_min_7cf53 (kM_J9_min_7cf53.2.2.2.1) rfl dX8_age_35 (Nat.le_of_ble_eq_true rfl) (by omega) (by omega) (by omega) ?_
      change q_W _ _ _ _ _ _ _ _ _ [.ref (a), .int (ds), .int (nI (k))] [.int ((if (ag_12 k) + ds < 90 then (ag_12 k) + ds else 90)), .int (nI (k)), .ref (a + 3)] _
      refine q_iastN (j := k) dX8_age_38 sst_12.c3 (by omega) (by decide) ?_
      refine z_genW (B := fun H => z_S2 H a n id wt (upd ag_12 k ((if (ag_12 k) + ds < 90 then (ag_12 k) + ds else 90))) tg att ni (dy + ds) mn mv en wo br ∧ q_same h H a 8) ⟨z_S2.put3 sst_12, pH.trans (q_same.set (by omega) (by omega))⟩ (fun h2 hB => ?_)
      obtain ⟨sst2, p2⟩ := hB
      have hb_st_n := sst2.bn
      have hb_st_mn := sst2.bmn
      refine q_iinc (x := nI (k)) (v := nI (k + 1)) dX8_age_39 rfl (nI_add _ 1) rfl ?_
      change q_W _ _ _ _ _ _ _ _ _ [.ref (a), .int (ds), .int (nI (k + 1))] [] _
      refine q_goto 12 dX8_age_42 (by decide) ?_
      change q_W _ _ _ _ _ _ _ _ _ [.ref (a), .int (ds), .int (nI (k + 1))] [] _
      exact ih (k + 1) (upd ag_12 k ((if (ag_12 k) + ds < 90 then (ag_12 k) + ds else 90))) h2 sst2 p2 (by omega) (fun r12_0 e9 => K r12_0 (by simp only [x_st_age_12]; exact e9))
def x_st_age (n : Nat) (wt : Nat → Int32) (ag : Nat → Int32) (tg : Nat → Int32) (att : Nat → Int32) (dy : Int32) (ds : Int32) : (Int32) × (Nat → Int32) × (Nat → Int32) × (Int32) := (let a3_0 := x_st_age_12 ds n 0 ag; (match x_st_findAttackers n wt a3_0 tg att with | (v5, y5_att) => (v5, a3_0, y5_att, dy + ds)))
set_option maxRecDepth 100000 in
set_option maxHeartbeats 8000000 in
theorem e_st_age {g : q_G} {h : q_H} {d : Nat} {a : Nat} {n : Nat} {id : Nat → Int32} {wt : Nat → Int32} {ag : Nat → Int32} {tg : Nat → Int32} {att : Nat → Int32} {ni : Int32} {dy : Int32} {mn : Nat} {mv : Nat → Int32} {en : Int32} {wo : Int32} {br : Int32} (sst : z_S2 h a n id wt ag tg att ni dy mn mv en wo br) (ds : Int32)   (hd : 2 ≤ d) : q_Spec g mX8_age d 0 0 [.ref (a), .int (ds)] h (q_chg (.inl (some (.int (x_st_age n wt ag tg att dy ds).1))) (fun h1 => z_S2 h1 a n id wt ((x_st_age n wt ag tg att dy ds).2.1) tg ((x_st_age n wt ag tg att dy ds).2.2.1) ni ((x_st_age n wt ag tg att dy ds).2.2.2) mn mv en wo br ∧ q_same h h1 a 8)) := by
  have hr_st := sst.r0
  have hb_st_n := sst.bn
  have hb_st_mn := sst.bmn
  have ho_st_n := sst.bn
  have ho_st_mn := sst.bmn
  have p0 : q_same h h a 8 := q_same.rfl'
  refine q_enter (by decide +kernel) rfl rfl (Nat.le_of_ble_eq_true rfl) (fun hz => ?_)
  change q_W _ _ _ _ _ _ _ _ _ [.ref (a), .int (ds), q_u] [] _
  refine q_aload_n (by first | assumption | omega | decide) dX8_age_0 rfl ?_
  refine q_dup dX8_age_1 rfl ?_
  refine q_getf (k := 8) (v := .int (dy)) kC_X8 kL_X8_41 rfl (by decide) dX8_age_2 sst.c0 rfl ?_
  refine q_iload_n dX8_age_5 rfl ?_
  refine q_iadd dX8_age_6 ?_
  refine q_putf (k := 8) kC_X8 kL_X8_41 rfl (by decide) rfl dX8_age_7 sst.c0 (Nat.le_of_ble_eq_true rfl) ⟨rfl, rfl⟩ rfl ?_
  refine z_genW (B := fun H => z_S2 H a n id wt ag tg att ni (dy + ds) mn mv en wo br ∧ q_same h H a 8) ⟨z_S2.put0 sst (n' := n) (hbn := by omega), p0.trans (q_same.set (by omega) (by omega))⟩ (fun h1 hB => ?_)
  obtain ⟨sst1, p1⟩ := hB
  have hb_st_n := sst1.bn
  have hb_st_mn := sst1.bmn
  refine q_iconst (v := 0) dX8_age_10 rfl ?_
  refine q_istore_n dX8_age_11 (by decide) rfl ?_
  change q_W _ _ _ _ _ _ _ _ _ [.ref (a), .int (ds), .int (0)] [] _
  change q_W _ _ _ _ _ _ _ _ _ [.ref (a), .int (ds), .int (0)] [] _
  refine l_st_age_12 hr_st ho_st_n ho_st_mn (by omega) (by omega) (by omega) n 0 ag h1 sst1 p1 (by omega) (fun a3_0 x3 h4 sst4 p4 => ?_)
  have hb_st_n := sst4.bn
  have hb_st_mn := sst4.bmn
  change q_W _ _ _ _ _ _ _ _ 45 [.ref (a), q_u, q_u] [] _
  refine q_aload_n (by first | assumption | omega | decide) dX8_age_45 rfl ?_
  rcases x5 : x_st_findAttackers n wt a3_0 tg att with ⟨v5, y5_att⟩
  have e9 := e_st_findAttackers (g := g) (h := h4) (d := d - 1) sst4 (by omega)
  rw [x5] at e9
  refine q_invV (mc' := 0) (ms' := 0) (d' := d - 1) (as := []) dX8_age_46 kM_X8_findAttackers kL_X8_142 kI_X8_findAttackers kS_X8_findAttackers rfl (kC_X8.1) sst4.c0 rfl rfl (Nat.le_of_ble_eq_true rfl) (by omega) (by decide) (by omega) (by omega) (e9) (q_kC (fun h6 hB => ?_)) q_xC
  obtain ⟨t6_0, pp6⟩ := hB
  have sst6 := t6_0
  have p6 := p4.trans (pp6.wide (by omega) (by omega))
  have hb_st_n := sst6.bn
  have hb_st_mn := sst6.bmn
  change q_W _ _ _ _ _ _ _ _ 49 [.ref (a), q_u, q_u] [.int (v5)] _
  have hE : x_st_age n wt ag tg att dy ds = (v5, a3_0, y5_att, dy + ds) := by simp only [x_st_age, x3, x5]
  rw [hE]
  exact q_ireturn dX8_age_49 rfl rfl (by omega) (by omega) ⟨rfl, sst6, p6⟩
def x_st_mustBeWeight (xw : Int32) : Unit ⊕ String := (if (xw) < (1) then .inr "java/lang/IllegalArgumentException" else (if (xw) ≤ (9) then .inl () else .inr "java/lang/IllegalArgumentException"))
set_option maxRecDepth 100000 in
set_option maxHeartbeats 8000000 in
theorem e_st_mustBeWeight {g : q_G} {h : q_H} {d : Nat}  (xw : Int32)   (hd : 7 ≤ d) : q_Spec g mX8_mustBeWeight d 1 6 [.int (xw)] h (q_out (q_oU (x_st_mustBeWeight xw)) h) := by
  refine q_enter (by decide +kernel) rfl rfl (Nat.le_of_ble_eq_true rfl) (fun hz => ?_)
  change q_W _ _ _ _ _ _ _ _ _ [.int (xw)] [] _
  refine q_iload_n dX8_mustBeWeight_0 rfl ?_
  refine q_iconst (v := 1) dX8_mustBeWeight_1 rfl ?_
  refine q_icmp_lt 11 dX8_mustBeWeight_2 (by decide) (fun b2 => ?_) (fun b2 => ?_)
  · have hE : x_st_mustBeWeight xw = .inr "java/lang/IllegalArgumentException" := by simp only [x_st_mustBeWeight, if_pos b2]
    rw [hE]
    refine q_throw kE_X8_167 kR_X8_200 rfl dX8_mustBeWeight_11 dX8_mustBeWeight_14 dX8_mustBeWeight_15 dX8_mustBeWeight_17 dX8_mustBeWeight_20 (Nat.le_of_ble_eq_true rfl) (by omega) (by omega) (by omega) ?_
    exact q_xout rfl ⟨rfl, rfl⟩ (by omega) (by omega)
  · refine q_iload_n dX8_mustBeWeight_5 rfl ?_
    refine q_bipush (v := 9) dX8_mustBeWeight_6 rfl ?_
    refine q_icmp_le 21 dX8_mustBeWeight_8 (by decide) (fun b8 => ?_) (fun b8 => ?_)
    · have hE : x_st_mustBeWeight xw = .inl () := by simp only [x_st_mustBeWeight, if_neg b2, if_pos b8]
      rw [hE]
      exact q_return dX8_mustBeWeight_21 rfl (by omega) (by omega) ⟨rfl, rfl⟩
    · have hE : x_st_mustBeWeight xw = .inr "java/lang/IllegalArgumentException" := by simp only [x_st_mustBeWeight, if_neg b2, if_neg b8]
      rw [hE]
      refine q_throw kE_X8_167 kR_X8_200 rfl dX8_mustBeWeight_11 dX8_mustBeWeight_14 dX8_mustBeWeight_15 dX8_mustBeWeight_17 dX8_mustBeWeight_20 (Nat.le_of_ble_eq_true rfl) (by omega) (by omega) (by omega) ?_
      exact q_xout rfl ⟨rfl, rfl⟩ (by omega) (by omega)
def x_st_withoutSlot (xs : Int32) (j : Nat) : Int32 := (xs &&& (((1 : Int32) <<< ((nI (j)) &&& 31)) - (1 : Int32))) ||| ((xs >>> ((1 : Int32) &&& 31)) &&& ((((1 : Int32) <<< ((nI (j)) &&& 31)) - (1 : Int32)) ^^^ (-1 : Int32)))
set_option maxRecDepth 100000 in
set_option maxHeartbeats 8000000 in
theorem e_st_withoutSlot {g : q_G} {h : q_H} {d : Nat}  (xs : Int32) (j : Nat)   (hd : 0 ≤ d) : q_Spec g mX8_withoutSlot d 0 0 [.int (xs), .int (nI (j))] h (q_ret ((some (.int (x_st_withoutSlot xs j)))) h) := by
  refine q_enter (by decide +kernel) rfl rfl (Nat.le_of_ble_eq_true rfl) (fun hz => ?_)
  change q_W _ _ _ _ _ _ _ _ _ [.int (xs), .int (nI (j)), q_u] [] _
  refine q_iconst (v := 1) dX8_withoutSlot_0 rfl ?_
  refine q_iload_n dX8_withoutSlot_1 rfl ?_
  refine q_ishl dX8_withoutSlot_2 ?_
  refine q_iconst (v := 1) dX8_withoutSlot_3 rfl ?_
  refine q_isub dX8_withoutSlot_4 ?_
  refine q_istore_n dX8_withoutSlot_5 (by decide) rfl ?_
  change q_W _ _ _ _ _ _ _ _ _ [.int (xs), .int (nI (j)), .int (((1 : Int32) <<< ((nI (j)) &&& 31)) - (1 : Int32))] [] _
  refine q_iload_n dX8_withoutSlot_6 rfl ?_
  refine q_iload_n dX8_withoutSlot_7 rfl ?_
  refine q_iand dX8_withoutSlot_8 ?_
  refine q_iload_n dX8_withoutSlot_9 rfl ?_
  refine q_iconst (v := 1) dX8_withoutSlot_10 rfl ?_
  refine q_ishr dX8_withoutSlot_11 ?_
  refine q_iload_n dX8_withoutSlot_12 rfl ?_
  refine q_iconst (v := -1) dX8_withoutSlot_13 rfl ?_
  refine q_ixor dX8_withoutSlot_14 ?_
  refine q_iand dX8_withoutSlot_15 ?_
  refine q_ior dX8_withoutSlot_16 ?_
  have hE : x_st_withoutSlot xs j = (xs &&& (((1 : Int32) <<< ((nI (j)) &&& 31)) - (1 : Int32))) ||| ((xs >>> ((1 : Int32) &&& 31)) &&& ((((1 : Int32) <<< ((nI (j)) &&& 31)) - (1 : Int32)) ^^^ (-1 : Int32))) := by simp only [x_st_withoutSlot]
  rw [hE]
  exact q_ireturn dX8_withoutSlot_17 rfl rfl (by omega) (by omega) ⟨rfl, rfl⟩
def x_st_add (n : Nat) (id : Nat → Int32) (wt : Nat → Int32) (ag : Nat → Int32) (tg : Nat → Int32) (att : Nat → Int32) (ni : Int32) (xw : Int32) : (Int32 ⊕ String) × (Nat) × (Nat → Int32) × (Nat → Int32) × (Nat → Int32) × (Nat → Int32) × (Nat → Int32) × (Int32) := (match x_st_mustBeWeight xw with | (.inl v1) => (if n < 8 then (match x_st_findAttackers (n + 1) (upd wt n (xw)) (upd ag n (0)) (upd tg n (0)) att with | (v9, y9_att) => (.inl ni, n + 1, upd id n (ni), upd wt n (xw), upd ag n (0), upd tg n (0), y9_att, ni + (1 : Int32))) else (.inr "java/lang/IllegalStateException", n, id, wt, ag, tg, att, ni)) | (.inr e1) => (.inr e1, n, id, wt, ag, tg, att, ni))
set_option maxRecDepth 100000 in
set_option maxHeartbeats 8000000 in
theorem e_st_add {g : q_G} {h : q_H} {d : Nat} {a : Nat} {n : Nat} {id : Nat → Int32} {wt : Nat → Int32} {ag : Nat → Int32} {tg : Nat → Int32} {att : Nat → Int32} {ni : Int32} {dy : Int32} {mn : Nat} {mv : Nat → Int32} {en : Int32} {wo : Int32} {br : Int32} (sst : z_S2 h a n id wt ag tg att ni dy mn mv en wo br) (xw : Int32)   (hd : 8 ≤ d) : q_Spec g mX8_add d 2 12 [.ref (a), .int (xw)] h (q_chg (q_oI (x_st_add n id wt ag tg att ni xw).1) (fun h1 => z_S2 h1 a ((x_st_add n id wt ag tg att ni xw).2.1) ((x_st_add n id wt ag tg att ni xw).2.2.1) ((x_st_add n id wt ag tg att ni xw).2.2.2.1) ((x_st_add n id wt ag tg att ni xw).2.2.2.2.1) ((x_st_add n id wt ag tg att ni xw).2.2.2.2.2.1) ((x_st_add n id wt ag tg att ni xw).2.2.2.2.2.2.1) ((x_st_add n id wt ag tg att ni xw).2.2.2.2.2.2.2) dy mn mv en wo br ∧ q_same h h1 a 8)) := by
  have hr_st := sst.r0
  have hb_st_n := sst.bn
  have hb_st_mn := sst.bmn
  have ho_st_n := sst.bn
  have ho_st_mn := sst.bmn
  have p0 : q_same h h a 8 := q_same.rfl'
  refine q_enter (by decide +kernel) rfl rfl (Nat.le_of_ble_eq_true rfl) (fun hz => ?_)
  change q_W _ _ _ _ _ _ _ _ _ [.ref (a), .int (xw), q_u] [] _
  refine q_iload_n dX8_add_0 rfl ?_
  rcases x1 : x_st_mustBeWeight xw with v1 | e1
  · have e9 := e_st_mustBeWeight (g := g) (h := h) (d := d - 1) xw (by omega)
    rw [x1] at e9
    refine q_invS (mc' := 1) (ms' := 6) (d' := d - 1) (as := [.int (xw)]) dX8_add_1 kM_X8_mustBeWeight kL_X8_145 kT_X8_mustBeWeight rfl rfl rfl (Nat.le_of_ble_eq_true rfl) (by omega) (by decide) (by omega) (by omega) (e9) (q_kR ?_) q_xR
    change q_W _ _ _ _ _ _ _ _ 4 [.ref (a), .int (xw), q_u] [] _
    refine q_aload_n (by first | assumption | omega | decide) dX8_add_4 rfl ?_
    refine q_getf (k := 6) (v := .int (nI (n))) kC_X8 kL_X8_34 rfl (by decide) dX8_add_5 sst.c0 rfl ?_
    refine q_bipush (v := 8) dX8_add_8 rfl ?_
    refine q_icmp_lt 23 dX8_add_10 (by decide) (fun b10 => ?_) (fun b10 => ?_)
    · have b10 := (nI_ltI (a := n) (b := 8) (by omega) (by omega)).mp b10
      refine q_aload_n (by first | assumption | omega | decide) dX8_add_23 rfl ?_
      refine q_getf (k := 7) (v := .int (ni)) kC_X8 kL_X8_38 rfl (by decide) dX8_add_24 sst.c0 rfl ?_
      refine q_istore_n dX8_add_27 (by decide) rfl ?_
      change q_W _ _ _ _ _ _ _ _ _ [.ref (a), .int (xw), .int (ni)] [] _
      refine q_aload_n (by first | assumption | omega | decide) dX8_add_28 rfl ?_
      refine q_getf (k := 0) (v := .ref (a + 1)) kC_X8 kL_X8_9 rfl (by decide) dX8_add_29 sst.c0 rfl ?_
      refine q_aload_n (by first | assumption | omega | decide) dX8_add_32 rfl ?_
      refine q_getf (k := 6) (v := .int (nI (n))) kC_X8 kL_X8_34 rfl (by decide) dX8_add_33 sst.c0 rfl ?_
      refine q_iload_n dX8_add_36 rfl ?_
      refine q_iastN (j := n) dX8_add_37 sst.c1 (by omega) (by decide) ?_
      refine z_genW (B := fun H => z_S2 H a n (upd id n (ni)) wt ag tg att ni dy mn mv en wo br ∧ q_same h H a 8) ⟨z_S2.put1 sst, p0.trans (q_same.set (by omega) (by omega))⟩ (fun h3 hB => ?_)
      obtain ⟨sst3, p3⟩ := hB
      have hb_st_n := sst3.bn
      have hb_st_mn := sst3.bmn
      refine q_aload_n (by first | assumption | omega | decide) dX8_add_38 rfl ?_
      refine q_getf (k := 1) (v := .ref (a + 2)) kC_X8 kL_X8_15 rfl (by decide) dX8_add_39 sst3.c0 rfl ?_
      refine q_aload_n (by first | assumption | omega | decide) dX8_add_42 rfl ?_
      refine q_getf (k := 6) (v := .int (nI (n))) kC_X8 kL_X8_34 rfl (by decide) dX8_add_43 sst3.c0 rfl ?_
      refine q_iload_n dX8_add_46 rfl ?_
      refine q_iastN (j := n) dX8_add_47 sst3.c2 (by omega) (by decide) ?_
      refine z_genW (B := fun H => z_S2 H a n (upd id n (ni)) (upd wt n (xw)) ag tg att ni dy mn mv en wo br ∧ q_same h H a 8) ⟨z_S2.put2 sst3, p3.trans (q_same.set (by omega) (by omega))⟩ (fun h4 hB => ?_)
      obtain ⟨sst4, p4⟩ := hB
      have hb_st_n := sst4.bn
      have hb_st_mn := sst4.bmn
      refine q_aload_n (by first | assumption | omega | decide) dX8_add_48 rfl ?_
      refine q_getf (k := 2) (v := .ref (a + 3)) kC_X8 kL_X8_18 rfl (by decide) dX8_add_49 sst4.c0 rfl ?_
      refine q_aload_n (by first | assumption | omega | decide) dX8_add_52 rfl ?_
      refine q_getf (k := 6) (v := .int (nI (n))) kC_X8 kL_X8_34 rfl (by decide) dX8_add_53 sst4.c0 rfl ?_
      refine q_iconst (v := 0) dX8_add_56 rfl ?_
      refine q_iastN (j := n) dX8_add_57 sst4.c3 (by omega) (by decide) ?_
      refine z_genW (B := fun H => z_S2 H a n (upd id n (ni)) (upd wt n (xw)) (upd ag n (0)) tg att ni dy mn mv en wo br ∧ q_same h H a 8) ⟨z_S2.put3 sst4, p4.trans (q_same.set (by omega) (by omega))⟩ (fun h5 hB => ?_)
      obtain ⟨sst5, p5⟩ := hB
      have hb_st_n := sst5.bn
      have hb_st_mn := sst5.bmn
      refine q_aload_n (by first | assumption | omega | decide) dX8_add_58 rfl ?_
      refine q_getf (k := 3) (v := .ref (a + 4)) kC_X8 kL_X8_21 rfl (by decide) dX8_add_59 sst5.c0 rfl ?_
      refine q_aload_n (by first | assumption | omega | decide) dX8_add_62 rfl ?_
      refine q_getf (k := 6) (v := .int (nI (n))) kC_X8 kL_X8_34 rfl (by decide) dX8_add_63 sst5.c0 rfl ?_
      refine q_iconst (v := 0) dX8_add_66 rfl ?_
      refine q_iastN (j := n) dX8_add_67 sst5.c4 (by omega) (by decide) ?_
      refine z_genW (B := fun H => z_S2 H a n (upd id n (ni)) (upd wt n (xw)) (upd ag n (0)) (upd tg n (0)) att ni dy mn mv en wo br ∧ q_same h H a 8) ⟨z_S2.put4 sst5, p5.trans (q_same.set (by omega) (by omega))⟩ (fun h6 hB => ?_)
      obtain ⟨sst6, p6⟩ := hB
      have hb_st_n := sst6.bn
      have hb_st_mn := sst6.bmn
      refine q_aload_n (by first | assumption | omega | decide) dX8_add_68 rfl ?_
      refine q_dup dX8_add_69 rfl ?_
      refine q_getf (k := 6) (v := .int (nI (n))) kC_X8 kL_X8_34 rfl (by decide) dX8_add_70 sst6.c0 rfl ?_
      refine q_iconst (v := 1) dX8_add_73 rfl ?_
      refine q_iaddN (a := n) (b := 1) dX8_add_74 ?_
      change q_W _ _ _ _ _ _ _ _ _ _ [.int (nI (n + 1)), .ref (a)] _
      refine q_putf (k := 6) kC_X8 kL_X8_34 rfl (by decide) rfl dX8_add_75 sst6.c0 (Nat.le_of_ble_eq_true rfl) ⟨rfl, rfl⟩ rfl ?_
      refine z_genW (B := fun H => z_S2 H a (n + 1) (upd id n (ni)) (upd wt n (xw)) (upd ag n (0)) (upd tg n (0)) att ni dy mn mv en wo br ∧ q_same h H a 8) ⟨z_S2.put0 sst6 (n' := n + 1) (hbn := by omega), p6.trans (q_same.set (by omega) (by omega))⟩ (fun h7 hB => ?_)
      obtain ⟨sst7, p7⟩ := hB
      have hb_st_n := sst7.bn
      have hb_st_mn := sst7.bmn
      refine q_aload_n (by first | assumption | omega | decide) dX8_add_78 rfl ?_
      refine q_dup dX8_add_79 rfl ?_
      refine q_getf (k := 7) (v := .int (ni)) kC_X8 kL_X8_38 rfl (by decide) dX8_add_80 sst7.c0 rfl ?_
      refine q_iconst (v := 1) dX8_add_83 rfl ?_
      refine q_iadd dX8_add_84 ?_
      refine q_putf (k := 7) kC_X8 kL_X8_38 rfl (by decide) rfl dX8_add_85 sst7.c0 (Nat.le_of_ble_eq_true rfl) ⟨rfl, rfl⟩ rfl ?_
      refine z_genW (B := fun H => z_S2 H a (n + 1) (upd id n (ni)) (upd wt n (xw)) (upd ag n (0)) (upd tg n (0)) att (ni + (1 : Int32)) dy mn mv en wo br ∧ q_same h H a 8) ⟨z_S2.put0 sst7 (n' := n + 1) (hbn := by omega), p7.trans (q_same.set (by omega) (by omega))⟩ (fun h8 hB => ?_)
      obtain ⟨sst8, p8⟩ := hB
      have hb_st_n := sst8.bn
      have hb_st_mn := sst8.bmn
      refine q_aload_n (by first | assumption | omega | decide) dX8_add_88 rfl ?_
      rcases x9 : x_st_findAttackers (n + 1) (upd wt n (xw)) (upd ag n (0)) (upd tg n (0)) att with ⟨v9, y9_att⟩
      have e9 := e_st_findAttackers (g := g) (h := h8) (d := d - 1) sst8 (by omega)
      rw [x9] at e9
      refine q_invV (mc' := 0) (ms' := 0) (d' := d - 1) (as := []) dX8_add_89 kM_X8_findAttackers kL_X8_142 kI_X8_findAttackers kS_X8_findAttackers rfl (kC_X8.1) sst8.c0 rfl rfl (Nat.le_of_ble_eq_true rfl) (by omega) (by decide) (by omega) (by omega) (e9) (q_kC (fun h10 hB => ?_)) q_xC
      obtain ⟨t10_0, pp10⟩ := hB
      have sst10 := t10_0
      have p10 := p8.trans (pp10.wide (by omega) (by omega))
      have hb_st_n := sst10.bn
      have hb_st_mn := sst10.bmn
      change q_W _ _ _ _ _ _ _ _ 92 [.ref (a), .int (xw), .int (ni)] [.int (v9)] _
      refine q_pop dX8_add_92 rfl ?_
      refine q_iload_n dX8_add_93 rfl ?_
      have hE : x_st_add n id wt ag tg att ni xw = (.inl ni, n + 1, upd id n (ni), upd wt n (xw), upd ag n (0), upd tg n (0), y9_att, ni + (1 : Int32)) := by simp only [x_st_add, x1, if_pos b10, x9]
      rw [hE]
      exact q_ireturn dX8_add_94 rfl rfl (by omega) (by omega) ⟨rfl, sst10, p10⟩
    · have b10 : ¬ (n < 8) := fun q => b10 ((nI_ltI (a := n) (b := 8) (by omega) (by omega)).mpr q)
      have hE : x_st_add n id wt ag tg att ni xw = (.inr "java/lang/IllegalStateException", n, id, wt, ag, tg, att, ni) := by simp only [x_st_add, x1, if_neg b10]
      rw [hE]
      refine q_throw kE_X8_153 kR_X8_151 rfl dX8_add_13 dX8_add_16 dX8_add_17 dX8_add_19 dX8_add_22 (Nat.le_of_ble_eq_true rfl) (by omega) (by omega) (by omega) ?_
      exact q_xout rfl ⟨rfl, sst.keep (q_same.skip (a := 0) (k := 0)) (Or.inr (Nat.zero_le _)), p0.trans q_same.skip⟩ (by omega) (by omega)
  · have e9 := e_st_mustBeWeight (g := g) (h := h) (d := d - 1) xw (by omega)
    rw [x1] at e9
    refine q_invS (mc' := 1) (ms' := 6) (d' := d - 1) (as := [.int (xw)]) dX8_add_1 kM_X8_mustBeWeight kL_X8_145 kT_X8_mustBeWeight rfl rfl rfl (Nat.le_of_ble_eq_true rfl) (by omega) (by decide) (by omega) (by omega) (e9) q_kT (q_xT ?_)
    have hE : x_st_add n id wt ag tg att ni xw = (.inr e1, n, id, wt, ag, tg, att, ni) := by simp only [x_st_add, x1]
    rw [hE]
    exact q_xout rfl ⟨rfl, sst.keep (q_same.skip (a := 0) (k := 0)) (Or.inr (Nat.zero_le _)), p0.trans q_same.skip⟩ (by omega) (by omega)
def x_st_remove_24  : Nat → Nat → (Nat → Int32) → (Nat → Int32) → (Nat → Int32) → (Nat → Int32) → (Nat → Int32) × (Nat → Int32) × (Nat → Int32) × (Nat → Int32)
  | 0, _, ag_24, id_24, tg_24, wt_24 => (ag_24, id_24, tg_24, wt_24)
  | r + 1, k, ag_24, id_24, tg_24, wt_24 => x_st_remove_24  r (k + 1) (upd ag_24 k (ag_24 (k + 1))) (upd id_24 k (id_24 (k + 1))) (upd tg_24 k (tg_24 (k + 1))) (upd wt_24 k (wt_24 (k + 1)))
set_option maxRecDepth 100000 in
set_option maxHeartbeats 8000000 in
theorem l_st_remove_24 {g : q_G} {h : q_H} {d mc ms kc ks : Nat} {Q : q_O → q_H → Prop} {a : Nat} {n : Nat} {tg : Nat → Int32} {att : Nat → Int32} {ni : Int32} {dy : Int32} {mn : Nat} {mv : Nat → Int32} {en : Int32} {wo : Int32} {br : Int32} {xid : Int32} {v1 : Nat}  (hr_st : q_R0 ≤ a) (ho_st_n : n ≤ 8) (ho_st_mn : mn ≤ 12) (f1 : v1 < n)  (hd : 0 ≤ d) (hkc : kc + 0 ≤ mc) (hks : ks + 0 ≤ ms) : ∀ (r k : Nat) (ag_24 : Nat → Int32) (id_24 : Nat → Int32) (tg_24 : Nat → Int32) (wt_24 : Nat → Int32) (hh : q_H) (sst_24 : z_S2 hh a (n - 1) id_24 wt_24 ag_24 tg_24 att ni dy mn mv en wo br) (pH : q_same h hh a 8) (hk_24 : k + r = n - 1) (K : ∀ (r24_0 : Nat → Int32) (r24_1 : Nat → Int32) (r24_2 : Nat → Int32) (r24_3 : Nat → Int32), x_st_remove_24  r k ag_24 id_24 tg_24 wt_24 = (r24_0, r24_1, r24_2, r24_3) → ∀ h2, z_S2 h2 a (n - 1) r24_1 r24_3 r24_0 r24_2 att ni dy mn mv en wo br → q_same h h2 a 8 → q_W g mX8_remove d mc ms Q kc ks 103 [.ref (a), .int (xid), .int (nI (v1)), .int (x_st_countAttacks n tg), q_u] [] h2), q_W g mX8_remove d mc ms Q kc ks 24 [.ref (a), .int (xid), .int (nI (v1)), .int (x_st_countAttacks n tg), .int (nI (k))] [] hh := by
  intro r
  induction r with
  | zero =>
    intro k ag_24 id_24 tg_24 wt_24 hh sst_24 pH hk_24 K
    have hr_st := sst_24.r0
    have hb_st_n := sst_24.bn
    have hb_st_mn := sst_24.bmn
    refine q_iload dX8_remove_24 rfl ?_
    refine q_aload_n (by first | assumption | omega | decide) dX8_remove_26 rfl ?_
    refine q_getf (k := 6) (v := .int (nI (n - 1))) kC_X8 kL_X8_34 rfl (by decide) dX8_remove_27 sst_24.c0 rfl ?_
    refine q_icmp_ge 103 dX8_remove_30 (by decide) (fun b30 => ?_) (fun b30 => ?_)
    · have b30 := (nI_leI (a := n - 1) (b := k) (by omega) (by omega)).mp b30
      refine q_forget 4 ?_
      change q_W _ _ _ _ _ _ _ _ _ [.ref (a), .int (xid), .int (nI (v1)), .int (x_st_countAttacks n tg), q_u] [] _
      exact K ag_24 id_24 tg_24 wt_24 (by simp only [x_st_remove_24]) hh sst_24 pH
    · have b30 : ¬ (n - 1 ≤ k) := fun q => b30 ((nI_leI (a := n - 1) (b := k) (by omega) (by omega)).mpr q)
      exact absurd b30 (by omega)
  | succ r ih =>
    intro k ag_24 id_24 tg_24 wt_24 hh sst_24 pH hk_24 K
    have hr_st := sst_24.r0
    have hb_st_n := sst_24.bn
    have hb_st_mn := sst_24.bmn
    refine q_iload dX8_remove_24 rfl ?_
    refine q_aload_n (by first | assumption | omega | decide) dX8_remove_26 rfl ?_
    refine q_getf (k := 6) (v := .int (nI (n - 1))) kC_X8 kL_X8_34 rfl (by decide) dX8_remove_27 sst_24.c0 rfl ?_
    refine q_icmp_ge 103 dX8_remove_30 (by decide) (fun b30 => ?_) (fun b30 => ?_)
    · have b30 := (nI_leI (a := n - 1) (b := k) (by omega) (by omega)).mp b30
      exact absurd b30 (by omega)
    · have b30 : ¬ (n - 1 ≤ k) := fun q => b30 ((nI_leI (a := n - 1) (b := k) (by omega) (by omega)).mpr q)
      refine q_aload_n (by first | assumption | omega | decide) dX8_remove_33 rfl ?_
      refine q_getf (k := 0) (v := .ref (a + 1)) kC_X8 kL_X8_9 rfl (by decide) dX8_remove_34 sst_24.c0 rfl ?_
      refine q_iload dX8_remove_37 rfl ?_
      refine q_aload_n (by first | assumption | omega | decide) dX8_remove_39 rfl ?_
      refine q_getf (k := 0) (v := .ref (a + 1)) kC_X8 kL_X8_9 rfl (by decide) dX8_remove_40 sst_24.c0 rfl ?_
      refine q_iload dX8_remove_43 rfl ?_
      refine q_iconst (v := 1) dX8_remove_45 rfl ?_
      refine q_iaddN (a := k) (b := 1) dX8_remove_46 ?_
      change q_W _ _ _ _ _ _ _ _ _ _ [.int (nI (k + 1)), .ref (a + 1), .int (nI (k)), .ref (a + 1)] _
      refine q_ialdN (j := k + 1) (f := id_24) dX8_remove_47 sst_24.c1 (by omega) (by decide) ?_
      change q_W _ _ _ _ _ _ _ _ _ _ [.int (id_24 (k + 1)), .int (nI (k)), .ref (a + 1)] _
      refine q_iastN (j := k) dX8_remove_48 sst_24.c1 (by omega) (by decide) ?_
      refine z_genW (B := fun H => z_S2 H a (n - 1) (upd id_24 k (id_24 (k + 1))) wt_24 ag_24 tg_24 att ni dy mn mv en wo br ∧ q_same h H a 8) ⟨z_S2.put1 sst_24, pH.trans (q_same.set (by omega) (by omega))⟩ (fun h4 hB => ?_)
      obtain ⟨sst4, p4⟩ := hB
      have hb_st_n := sst4.bn
      have hb_st_mn := sst4.bmn
      refine q_aload_n (by first | assumption | omega | decide) dX8_remove_49 rfl ?_
      refine q_getf (k := 1) (v := .ref (a + 2)) kC_X8 kL_X8_15 rfl (by decide) dX8_remove_50 sst4.c0 rfl ?_
      refine q_iload dX8_remove_53 rfl ?_
      refine q_aload_n (by first | assumption | omega | decide) dX8_remove_55 rfl ?_
      refine q_getf (k := 1) (v := .ref (a + 2)) kC_X8 kL_X8_15 rfl (by decide) dX8_remove_56 sst4.c0 rfl ?_
      refine q_iload dX8_remove_59 rfl ?_
      refine q_iconst (v := 1) dX8_remove_61 rfl ?_
      refine q_iaddN (a := k) (b := 1) dX8_remove_62 ?_
      change q_W _ _ _ _ _ _ _ _ _ _ [.int (nI (k + 1)), .ref (a + 2), .int (nI (k)), .ref (a + 2)] _
      refine q_ialdN (j := k + 1) (f := wt_24) dX8_remove_63 sst4.c2 (by omega) (by decide) ?_
      change q_W _ _ _ _ _ _ _ _ _ _ [.int (wt_24 (k + 1)), .int (nI (k)), .ref (a + 2)] _
      refine q_iastN (j := k) dX8_remove_64 sst4.c2 (by omega) (by decide) ?_
      refine z_genW (B := fun H => z_S2 H a (n - 1) (upd id_24 k (id_24 (k + 1))) (upd wt_24 k (wt_24 (k + 1))) ag_24 tg_24 att ni dy mn mv en wo br ∧ q_same h H a 8) ⟨z_S2.put2 sst4, p4.trans (q_same.set (by omega) (by omega))⟩ (fun h5 hB => ?_)
      obtain ⟨sst5, p5⟩ := hB
      have hb_st_n := sst5.bn
      have hb_st_mn := sst5.bmn
      refine q_aload_n (by first | assumption | omega | decide) dX8_remove_65 rfl ?_
      refine q_getf (k := 2) (v := .ref (a + 3)) kC_X8 kL_X8_18 rfl (by decide) dX8_remove_66 sst5.c0 rfl ?_
      refine q_iload dX8_remove_69 rfl ?_
      refine q_aload_n (by first | assumption | omega | decide) dX8_remove_71 rfl ?_
      refine q_getf (k := 2) (v := .ref (a + 3)) kC_X8 kL_X8_18 rfl (by decide) dX8_remove_72 sst5.c0 rfl ?_
      refine q_iload dX8_remove_75 rfl ?_
      refine q_iconst (v := 1) dX8_remove_77 rfl ?_
      refine q_iaddN (a := k) (b := 1) dX8_remove_78 ?_
      change q_W _ _ _ _ _ _ _ _ _ _ [.int (nI (k + 1)), .ref (a + 3), .int (nI (k)), .ref (a + 3)] _
      refine q_ialdN (j := k + 1) (f := ag_24) dX8_remove_79 sst5.c3 (by omega) (by decide) ?_
      change q_W _ _ _ _ _ _ _ _ _ _ [.int (ag_24 (k + 1)), .int (nI (k)), .ref (a + 3)] _
      refine q_iastN (j := k) dX8_remove_80 sst5.c3 (by omega) (by decide) ?_
      refine z_genW (B := fun H => z_S2 H a (n - 1) (upd id_24 k (id_24 (k + 1))) (upd wt_24 k (wt_24 (k + 1))) (upd ag_24 k (ag_24 (k + 1))) tg_24 att ni dy mn mv en wo br ∧ q_same h H a 8) ⟨z_S2.put3 sst5, p5.trans (q_same.set (by omega) (by omega))⟩ (fun h6 hB => ?_)
      obtain ⟨sst6, p6⟩ := hB
      have hb_st_n := sst6.bn
      have hb_st_mn := sst6.bmn
      refine q_aload_n (by first | assumption | omega | decide) dX8_remove_81 rfl ?_
      refine q_getf (k := 3) (v := .ref (a + 4)) kC_X8 kL_X8_21 rfl (by decide) dX8_remove_82 sst6.c0 rfl ?_
      refine q_iload dX8_remove_85 rfl ?_
      refine q_aload_n (by first | assumption | omega | decide) dX8_remove_87 rfl ?_
      refine q_getf (k := 3) (v := .ref (a + 4)) kC_X8 kL_X8_21 rfl (by decide) dX8_remove_88 sst6.c0 rfl ?_
      refine q_iload dX8_remove_91 rfl ?_
      refine q_iconst (v := 1) dX8_remove_93 rfl ?_
      refine q_iaddN (a := k) (b := 1) dX8_remove_94 ?_
      change q_W _ _ _ _ _ _ _ _ _ _ [.int (nI (k + 1)), .ref (a + 4), .int (nI (k)), .ref (a + 4)] _
      refine q_ialdN (j := k + 1) (f := tg_24) dX8_remove_95 sst6.c4 (by omega) (by decide) ?_
      change q_W _ _ _ _ _ _ _ _ _ _ [.int (tg_24 (k + 1)), .int (nI (k)), .ref (a + 4)] _
      refine q_iastN (j := k) dX8_remove_96 sst6.c4 (by omega) (by decide) ?_
      refine z_genW (B := fun H => z_S2 H a (n - 1) (upd id_24 k (id_24 (k + 1))) (upd wt_24 k (wt_24 (k + 1))) (upd ag_24 k (ag_24 (k + 1))) (upd tg_24 k (tg_24 (k + 1))) att ni dy mn mv en wo br ∧ q_same h H a 8) ⟨z_S2.put4 sst6, p6.trans (q_same.set (by omega) (by omega))⟩ (fun h7 hB => ?_)
      obtain ⟨sst7, p7⟩ := hB
      have hb_st_n := sst7.bn
      have hb_st_mn := sst7.bmn
      refine q_iinc (x := nI (k)) (v := nI (k + 1)) dX8_remove_97 rfl (nI_add _ 1) rfl ?_
      change q_W _ _ _ _ _ _ _ _ _ [.ref (a), .int (xid), .int (nI (v1)), .int (x_st_countAttacks n tg), .int (nI (k + 1))] [] _
      refine q_goto 24 dX8_remove_100 (by decide) ?_
      change q_W _ _ _ _ _ _ _ _ _ [.ref (a), .int (xid), .int (nI (v1)), .int (x_st_countAttacks n tg), .int (nI (k + 1))] [] _
      exact ih (k + 1) (upd ag_24 k (ag_24 (k + 1))) (upd id_24 k (id_24 (k + 1))) (upd tg_24 k (tg_24 (k + 1))) (upd wt_24 k (wt_24 (k + 1))) h7 sst7 p7 (by omega) (fun r24_0 r24_1 r24_2 r24_3 e9 => K r24_0 r24_1 r24_2 r24_3 (by simp only [x_st_remove_24]; exact e9))
def x_st_remove_106 (v1 : Nat) : Nat → Nat → (Nat → Int32) → (Nat → Int32)
  | 0, _, tg_106 => tg_106
  | r + 1, kk, tg_106 => x_st_remove_106 v1 r (kk + 1) (upd tg_106 kk (x_st_withoutSlot (tg_106 kk) v1))
set_option maxRecDepth 100000 in
set_option maxHeartbeats 8000000 in
theorem l_st_remove_106 {g : q_G} {h : q_H} {d mc ms kc ks : Nat} {Q : q_O → q_H → Prop} {a : Nat} {n : Nat} {tg : Nat → Int32} {att : Nat → Int32} {ni : Int32} {dy : Int32} {mn : Nat} {mv : Nat → Int32} {en : Int32} {wo : Int32} {br : Int32} {xid : Int32} {v1 : Nat} {a8_0 : Nat → Int32} {a8_1 : Nat → Int32} {a8_3 : Nat → Int32}  (hr_st : q_R0 ≤ a) (ho_st_n : n ≤ 8) (ho_st_mn : mn ≤ 12) (f1 : v1 < n)  (hd : 1 ≤ d) (hkc : kc + 0 ≤ mc) (hks : ks + 0 ≤ ms) : ∀ (r kk : Nat) (tg_106 : Nat → Int32) (hh : q_H) (sst_106 : z_S2 hh a (n - 1) a8_1 a8_3 a8_0 tg_106 att ni dy mn mv en wo br) (pH : q_same h hh a 8) (hk_106 : kk + r = n - 1) (K : ∀ (r106_0 : Nat → Int32), x_st_remove_106 v1 r kk tg_106 = r106_0 → ∀ h2, z_S2 h2 a (n - 1) a8_1 a8_3 a8_0 r106_0 att ni dy mn mv en wo br → q_same h h2 a 8 → q_W g mX8_remove d mc ms Q kc ks 139 [.ref (a), .int (xid), q_u, .int (x_st_countAttacks n tg), q_u] [] h2), q_W g mX8_remove d mc ms Q kc ks 106 [.ref (a), .int (xid), .int (nI (v1)), .int (x_st_countAttacks n tg), .int (nI (kk))] [] hh := by
  intro r
  induction r with
  | zero =>
    intro kk tg_106 hh sst_106 pH hk_106 K
    have hr_st := sst_106.r0
    have hb_st_n := sst_106.bn
    have hb_st_mn := sst_106.bmn
    refine q_iload dX8_remove_106 rfl ?_
    refine q_aload_n (by first | assumption | omega | decide) dX8_remove_108 rfl ?_
    refine q_getf (k := 6) (v := .int (nI (n - 1))) kC_X8 kL_X8_34 rfl (by decide) dX8_remove_109 sst_106.c0 rfl ?_
    refine q_icmp_ge 139 dX8_remove_112 (by decide) (fun b112 => ?_) (fun b112 => ?_)
    · have b112 := (nI_leI (a := n - 1) (b := kk) (by omega) (by omega)).mp b112
      refine q_forget 2 ?_
      refine q_forget 4 ?_
      change q_W _ _ _ _ _ _ _ _ _ [.ref (a), .int (xid), q_u, .int (x_st_countAttacks n tg), q_u] [] _
      exact K tg_106 (by simp only [x_st_remove_106]) hh sst_106 pH
    · have b112 : ¬ (n - 1 ≤ kk) := fun q => b112 ((nI_leI (a := n - 1) (b := kk) (by omega) (by omega)).mpr q)
      exact absurd b112 (by omega)
  | succ r ih =>
    intro kk tg_106 hh sst_106 pH hk_106 K
    have hr_st := sst_106.r0
    have hb_st_n := sst_106.bn
    have hb_st_mn := sst_106.bmn
    refine q_iload dX8_remove_106 rfl ?_
    refine q_aload_n (by first | assumption | omega | decide) dX8_remove_108 rfl ?_
    refine q_getf (k := 6) (v := .int (nI (n - 1))) kC_X8 kL_X8_34 rfl (by decide) dX8_remove_109 sst_106.c0 rfl ?_
    refine q_icmp_ge 139 dX8_remove_112 (by decide) (fun b112 => ?_) (fun b112 => ?_)
    · have b112 := (nI_leI (a := n - 1) (b := kk) (by omega) (by omega)).mp b112
      exact absurd b112 (by omega)
    · have b112 : ¬ (n - 1 ≤ kk) := fun q => b112 ((nI_leI (a := n - 1) (b := kk) (by omega) (by omega)).mpr q)
      refine q_aload_n (by first | assumption | omega | decide) dX8_remove_115 rfl ?_
      refine q_getf (k := 3) (v := .ref (a + 4)) kC_X8 kL_X8_21 rfl (by decide) dX8_remove_116 sst_106.c0 rfl ?_
      refine q_iload dX8_remove_119 rfl ?_
      refine q_aload_n (by first | assumption | omega | decide) dX8_remove_121 rfl ?_
      refine q_getf (k := 3) (v := .ref (a + 4)) kC_X8 kL_X8_21 rfl (by decide) dX8_remove_122 sst_106.c0 rfl ?_
      refine q_iload dX8_remove_125 rfl ?_
      refine q_ialdN (j := kk) (f := tg_106) dX8_remove_127 sst_106.c4 (by omega) (by decide) ?_
      change q_W _ _ _ _ _ _ _ _ _ _ [.int (tg_106 kk), .int (nI (kk)), .ref (a + 4)] _
      refine q_iload_n dX8_remove_128 rfl ?_
      refine q_invS (mc' := 0) (ms' := 0) (d' := d - 1) (as := [.int (tg_106 kk), .int (nI (v1))]) dX8_remove_129 kM_X8_withoutSlot kL_X8_157 kT_X8_withoutSlot rfl rfl rfl (Nat.le_of_ble_eq_true rfl) (by omega) (by decide) (by omega) (by omega) (e_st_withoutSlot (d := d - 1) (tg_106 kk) v1 (by omega)) (q_kR ?_) q_xR
      change q_W _ _ _ _ _ _ _ _ 132 [.ref (a), .int (xid), .int (nI (v1)), .int (x_st_countAttacks n tg), .int (nI (kk))] [.int (x_st_withoutSlot (tg_106 kk) v1), .int (nI (kk)), .ref (a + 4)] _
      refine q_iastN (j := kk) dX8_remove_132 sst_106.c4 (by omega) (by decide) ?_
      refine z_genW (B := fun H => z_S2 H a (n - 1) a8_1 a8_3 a8_0 (upd tg_106 kk (x_st_withoutSlot (tg_106 kk) v1)) att ni dy mn mv en wo br ∧ q_same h H a 8) ⟨z_S2.put4 sst_106, pH.trans (q_same.set (by omega) (by omega))⟩ (fun h10 hB => ?_)
      obtain ⟨sst10, p10⟩ := hB
      have hb_st_n := sst10.bn
      have hb_st_mn := sst10.bmn
      refine q_iinc (x := nI (kk)) (v := nI (kk + 1)) dX8_remove_133 rfl (nI_add _ 1) rfl ?_
      change q_W _ _ _ _ _ _ _ _ _ [.ref (a), .int (xid), .int (nI (v1)), .int (x_st_countAttacks n tg), .int (nI (kk + 1))] [] _
      refine q_goto 106 dX8_remove_136 (by decide) ?_
      change q_W _ _ _ _ _ _ _ _ _ [.ref (a), .int (xid), .int (nI (v1)), .int (x_st_countAttacks n tg), .int (nI (kk + 1))] [] _
      exact ih (kk + 1) (upd tg_106 kk (x_st_withoutSlot (tg_106 kk) v1)) h10 sst10 p10 (by omega) (fun r106_0 e9 => K r106_0 (by simp only [x_st_remove_106]; exact e9))
def x_st_remove (n : Nat) (id : Nat → Int32) (wt : Nat → Int32) (ag : Nat → Int32) (tg : Nat → Int32) (att : Nat → Int32) (mn : Nat) (mv : Nat → Int32) (br : Int32) (xid : Int32) : (Int32 ⊕ String) × (Nat) × (Nat → Int32) × (Nat → Int32) × (Nat → Int32) × (Nat → Int32) × (Nat → Int32) × (Nat) × (Int32) := (match x_st_slotOfKnown n id xid with | (.inl v1) => (match x_st_remove_24 (n - 1 - v1) v1 ag id tg wt with | (a8_0, a8_1, a8_2, a8_3) => (let a11_0 := x_st_remove_106 v1 (n - 1) 0 a8_2; (match x_st_findAttackers (n - 1) a8_3 a8_0 a11_0 att with | (v13, y13_att) => (match x_dl_breakOffIfMoved mn mv br xid with | (y15_mn, y15_br) => (.inl ((x_st_countAttacks n tg) - (x_st_countAttacks (n - 1) a11_0)), n - 1, a8_1, a8_3, a8_0, a11_0, y13_att, y15_mn, y15_br))))) | (.inr e1) => (.inr e1, n, id, wt, ag, tg, att, mn, br))
set_option maxRecDepth 100000 in
set_option maxHeartbeats 8000000 in
theorem e_st_remove {g : q_G} {h : q_H} {d : Nat} {a : Nat} {n : Nat} {id : Nat → Int32} {wt : Nat → Int32} {ag : Nat → Int32} {tg : Nat → Int32} {att : Nat → Int32} {ni : Int32} {dy : Int32} {mn : Nat} {mv : Nat → Int32} {en : Int32} {wo : Int32} {br : Int32} (sst : z_S2 h a n id wt ag tg att ni dy mn mv en wo br) (xid : Int32)   (hd : 8 ≤ d) : q_Spec g mX8_remove d 1 6 [.ref (a), .int (xid)] h (q_chg (q_oI (x_st_remove n id wt ag tg att mn mv br xid).1) (fun h1 => z_S2 h1 a ((x_st_remove n id wt ag tg att mn mv br xid).2.1) ((x_st_remove n id wt ag tg att mn mv br xid).2.2.1) ((x_st_remove n id wt ag tg att mn mv br xid).2.2.2.1) ((x_st_remove n id wt ag tg att mn mv br xid).2.2.2.2.1) ((x_st_remove n id wt ag tg att mn mv br xid).2.2.2.2.2.1) ((x_st_remove n id wt ag tg att mn mv br xid).2.2.2.2.2.2.1) ni dy ((x_st_remove n id wt ag tg att mn mv br xid).2.2.2.2.2.2.2.1) mv en wo ((x_st_remove n id wt ag tg att mn mv br xid).2.2.2.2.2.2.2.2) ∧ q_same h h1 a 8)) := by
  have hr_st := sst.r0
  have hb_st_n := sst.bn
  have hb_st_mn := sst.bmn
  have ho_st_n := sst.bn
  have ho_st_mn := sst.bmn
  have p0 : q_same h h a 8 := q_same.rfl'
  refine q_enter (by decide +kernel) rfl rfl (Nat.le_of_ble_eq_true rfl) (fun hz => ?_)
  change q_W _ _ _ _ _ _ _ _ _ [.ref (a), .int (xid), q_u, q_u, q_u] [] _
  refine q_aload_n (by first | assumption | omega | decide) dX8_remove_0 rfl ?_
  refine q_iload_n dX8_remove_1 rfl ?_
  rcases x1 : x_st_slotOfKnown n id xid with v1 | e1
  · have e9 := e_st_slotOfKnown (g := g) (h := h) (d := d - 1) sst xid (by omega)
    rw [x1] at e9
    refine q_invV (mc' := 1) (ms' := 6) (d' := d - 1) (as := [.int (xid)]) dX8_remove_2 kM_X8_slotOfKnown kL_X8_111 kI_X8_slotOfKnown kS_X8_slotOfKnown rfl (kC_X8.1) sst.c0 rfl rfl (Nat.le_of_ble_eq_true rfl) (by omega) (by decide) (by omega) (by omega) (e9) (q_kR ?_) q_xR
    have f1 := z_slot_lt x1
    change q_W _ _ _ _ _ _ _ _ 5 [.ref (a), .int (xid), q_u, q_u, q_u] [.int (nI (v1))] _
    refine q_istore_n dX8_remove_5 (by decide) rfl ?_
    change q_W _ _ _ _ _ _ _ _ _ [.ref (a), .int (xid), .int (nI (v1)), q_u, q_u] [] _
    refine q_aload_n (by first | assumption | omega | decide) dX8_remove_6 rfl ?_
    refine q_invV (mc' := 0) (ms' := 0) (d' := d - 1) (as := []) dX8_remove_7 kM_X8_countAttacks kL_X8_154 kI_X8_countAttacks kS_X8_countAttacks rfl (kC_X8.1) sst.c0 rfl rfl (Nat.le_of_ble_eq_true rfl) (by omega) (by decide) (by omega) (by omega) (e_st_countAttacks (d := d - 1) sst (by omega)) (q_kR ?_) q_xR
    change q_W _ _ _ _ _ _ _ _ 10 [.ref (a), .int (xid), .int (nI (v1)), q_u, q_u] [.int (x_st_countAttacks n tg)] _
    refine q_istore_n dX8_remove_10 (by decide) rfl ?_
    change q_W _ _ _ _ _ _ _ _ _ [.ref (a), .int (xid), .int (nI (v1)), .int (x_st_countAttacks n tg), q_u] [] _
    refine q_aload_n (by first | assumption | omega | decide) dX8_remove_11 rfl ?_
    refine q_dup dX8_remove_12 rfl ?_
    refine q_getf (k := 6) (v := .int (nI (n))) kC_X8 kL_X8_34 rfl (by decide) dX8_remove_13 sst.c0 rfl ?_
    refine q_iconst (v := 1) dX8_remove_16 rfl ?_
    refine q_isubN (a := n) (b := 1) (by omega) dX8_remove_17 ?_
    refine q_putf (k := 6) kC_X8 kL_X8_34 rfl (by decide) rfl dX8_remove_18 sst.c0 (Nat.le_of_ble_eq_true rfl) ⟨rfl, rfl⟩ rfl ?_
    refine z_genW (B := fun H => z_S2 H a (n - 1) id wt ag tg att ni dy mn mv en wo br ∧ q_same h H a 8) ⟨z_S2.put0 sst (n' := n - 1) (hbn := by omega), p0.trans (q_same.set (by omega) (by omega))⟩ (fun h3 hB => ?_)
    obtain ⟨sst3, p3⟩ := hB
    have hb_st_n := sst3.bn
    have hb_st_mn := sst3.bmn
    refine q_iload_n dX8_remove_21 rfl ?_
    refine q_istore dX8_remove_22 (by decide) rfl ?_
    change q_W _ _ _ _ _ _ _ _ _ [.ref (a), .int (xid), .int (nI (v1)), .int (x_st_countAttacks n tg), .int (nI (v1))] [] _
    change q_W _ _ _ _ _ _ _ _ _ [.ref (a), .int (xid), .int (nI (v1)), .int (x_st_countAttacks n tg), .int (nI (v1))] [] _
    refine l_st_remove_24 hr_st ho_st_n ho_st_mn f1 (by omega) (by omega) (by omega) (n - 1 - v1) v1 ag id tg wt h3 sst3 p3 (by omega) (fun a8_0 a8_1 a8_2 a8_3 x8 h9 sst9 p9 => ?_)
    have hb_st_n := sst9.bn
    have hb_st_mn := sst9.bmn
    change q_W _ _ _ _ _ _ _ _ 103 [.ref (a), .int (xid), .int (nI (v1)), .int (x_st_countAttacks n tg), q_u] [] _
    refine q_iconst (v := 0) dX8_remove_103 rfl ?_
    refine q_istore dX8_remove_104 (by decide) rfl ?_
    change q_W _ _ _ _ _ _ _ _ _ [.ref (a), .int (xid), .int (nI (v1)), .int (x_st_countAttacks n tg), .int (0)] [] _
    change q_W _ _ _ _ _ _ _ _ _ [.ref (a), .int (xid), .int (nI (v1)), .int (x_st_countAttacks n tg), .int (0)] [] _
    refine l_st_remove_106 hr_st ho_st_n ho_st_mn f1 (by omega) (by omega) (by omega) (n - 1) 0 a8_2 h9 sst9 p9 (by omega) (fun a11_0 x11 h12 sst12 p12 => ?_)
    have hb_st_n := sst12.bn
    have hb_st_mn := sst12.bmn
    change q_W _ _ _ _ _ _ _ _ 139 [.ref (a), .int (xid), q_u, .int (x_st_countAttacks n tg), q_u] [] _
    refine q_aload_n (by first | assumption | omega | decide) dX8_remove_139 rfl ?_
    rcases x13 : x_st_findAttackers (n - 1) a8_3 a8_0 a11_0 att with ⟨v13, y13_att⟩
    have e9 := e_st_findAttackers (g := g) (h := h12) (d := d - 1) sst12 (by omega)
    rw [x13] at e9
    refine q_invV (mc' := 0) (ms' := 0) (d' := d - 1) (as := []) dX8_remove_140 kM_X8_findAttackers kL_X8_142 kI_X8_findAttackers kS_X8_findAttackers rfl (kC_X8.1) sst12.c0 rfl rfl (Nat.le_of_ble_eq_true rfl) (by omega) (by decide) (by omega) (by omega) (e9) (q_kC (fun h14 hB => ?_)) q_xC
    obtain ⟨t14_0, pp14⟩ := hB
    have sst14 := t14_0
    have p14 := p12.trans (pp14.wide (by omega) (by omega))
    have hb_st_n := sst14.bn
    have hb_st_mn := sst14.bmn
    change q_W _ _ _ _ _ _ _ _ 143 [.ref (a), .int (xid), q_u, .int (x_st_countAttacks n tg), q_u] [.int (v13)] _
    refine q_pop dX8_remove_143 rfl ?_
    refine q_aload_n (by first | assumption | omega | decide) dX8_remove_144 rfl ?_
    refine q_getf (k := 5) (v := .ref (a + 6)) kC_X8 kL_X8_30 rfl (by decide) dX8_remove_145 sst14.c0 rfl ?_
    refine q_iload_n dX8_remove_148 rfl ?_
    rcases x15 : x_dl_breakOffIfMoved mn mv br xid with ⟨y15_mn, y15_br⟩
    have e9 := e_dl_breakOffIfMoved (g := g) (h := h14) (d := d - 1) (sst14.dl) xid (by omega)
    rw [x15] at e9
    refine q_invV (mc' := 0) (ms' := 0) (d' := d - 1) (as := [.int (xid)]) dX8_remove_149 kM_X2_breakOffIfMoved kL_X8_160 kI_X2_breakOffIfMoved kS_X2_breakOffIfMoved rfl (kC_X2.1) sst14.c6 rfl rfl (Nat.le_of_ble_eq_true rfl) (by omega) (by decide) (by omega) (by omega) (e9) (q_kC (fun h16 hB => ?_)) q_xC
    obtain ⟨t16_0, pp16⟩ := hB
    have sst16 := sst14.ofdl t16_0 pp16
    have p16 := p14.trans (pp16.wide (by omega) (by omega))
    have hb_st_n := sst16.bn
    have hb_st_mn := sst16.bmn
    change q_W _ _ _ _ _ _ _ _ 152 [.ref (a), .int (xid), q_u, .int (x_st_countAttacks n tg), q_u] [] _
    refine q_iload_n dX8_remove_152 rfl ?_
    refine q_aload_n (by first | assumption | omega | decide) dX8_remove_153 rfl ?_
    refine q_invV (mc' := 0) (ms' := 0) (d' := d - 1) (as := []) dX8_remove_154 kM_X8_countAttacks kL_X8_154 kI_X8_countAttacks kS_X8_countAttacks rfl (kC_X8.1) sst16.c0 rfl rfl (Nat.le_of_ble_eq_true rfl) (by omega) (by decide) (by omega) (by omega) (e_st_countAttacks (d := d - 1) sst16 (by omega)) (q_kR ?_) q_xR
    change q_W _ _ _ _ _ _ _ _ 157 [.ref (a), .int (xid), q_u, .int (x_st_countAttacks n tg), q_u] [.int (x_st_countAttacks (n - 1) a11_0), .int (x_st_countAttacks n tg)] _
    refine q_isub dX8_remove_157 ?_
    have hE : x_st_remove n id wt ag tg att mn mv br xid = (.inl ((x_st_countAttacks n tg) - (x_st_countAttacks (n - 1) a11_0)), n - 1, a8_1, a8_3, a8_0, a11_0, y13_att, y15_mn, y15_br) := by simp only [x_st_remove, x1, x8, x11, x13, x15]
    rw [hE]
    exact q_ireturn dX8_remove_158 rfl rfl (by omega) (by omega) ⟨rfl, sst16, p16⟩
  · have e9 := e_st_slotOfKnown (g := g) (h := h) (d := d - 1) sst xid (by omega)
    rw [x1] at e9
    refine q_invV (mc' := 1) (ms' := 6) (d' := d - 1) (as := [.int (xid)]) dX8_remove_2 kM_X8_slotOfKnown kL_X8_111 kI_X8_slotOfKnown kS_X8_slotOfKnown rfl (kC_X8.1) sst.c0 rfl rfl (Nat.le_of_ble_eq_true rfl) (by omega) (by decide) (by omega) (by omega) (e9) q_kT (q_xT ?_)
    have hE : x_st_remove n id wt ag tg att mn mv br xid = (.inr e1, n, id, wt, ag, tg, att, mn, br) := by simp only [x_st_remove, x1]
    rw [hE]
    exact q_xout rfl ⟨rfl, sst.keep (q_same.skip (a := 0) (k := 0)) (Or.inr (Nat.zero_le _)), p0.trans q_same.skip⟩ (by omega) (by omega)
def x_st_attack (n : Nat) (id : Nat → Int32) (wt : Nat → Int32) (ag : Nat → Int32) (tg : Nat → Int32) (att : Nat → Int32) (xf : Int32) (xt : Int32) : (Int32 ⊕ String) × (Nat → Int32) × (Nat → Int32) := (match x_st_slotOfKnown n id xf with | (.inl v1) => (match x_st_slotOfKnown n id xt with | (.inl v3) => (if v1 = v3 then (.inr "java/lang/IllegalArgumentException", tg, att) else (if z_has (tg v1) v3 then (.inr "java/lang/IllegalStateException", tg, att) else (if (x_st_countAttacks n tg) < (20) then (match x_st_findAttackers n wt ag (upd tg v1 ((tg v1) ||| ((1 : Int32) <<< ((nI (v3)) &&& 31)))) att with | (v6, y6_att) => (let v8 := x_st_countAttacks n (upd tg v1 ((tg v1) ||| ((1 : Int32) <<< ((nI (v3)) &&& 31)))); (.inl v8, upd tg v1 ((tg v1) ||| ((1 : Int32) <<< ((nI (v3)) &&& 31))), y6_att))) else (.inr "java/lang/IllegalStateException", tg, att)))) | (.inr e3) => (.inr e3, tg, att)) | (.inr e1) => (.inr e1, tg, att))
set_option maxRecDepth 100000 in
set_option maxHeartbeats 8000000 in
theorem e_st_attack {g : q_G} {h : q_H} {d : Nat} {a : Nat} {n : Nat} {id : Nat → Int32} {wt : Nat → Int32} {ag : Nat → Int32} {tg : Nat → Int32} {att : Nat → Int32} {ni : Int32} {dy : Int32} {mn : Nat} {mv : Nat → Int32} {en : Int32} {wo : Int32} {br : Int32} (sst : z_S2 h a n id wt ag tg att ni dy mn mv en wo br) (xf : Int32) (xt : Int32)   (hd : 8 ≤ d) : q_Spec g mX8_attack d 3 18 [.ref (a), .int (xf), .int (xt)] h (q_chg (q_oI (x_st_attack n id wt ag tg att xf xt).1) (fun h1 => z_S2 h1 a n id wt ag ((x_st_attack n id wt ag tg att xf xt).2.1) ((x_st_attack n id wt ag tg att xf xt).2.2) ni dy mn mv en wo br ∧ q_same h h1 a 8)) := by
  have hr_st := sst.r0
  have hb_st_n := sst.bn
  have hb_st_mn := sst.bmn
  have ho_st_n := sst.bn
  have ho_st_mn := sst.bmn
  have p0 : q_same h h a 8 := q_same.rfl'
  refine q_enter (by decide +kernel) rfl rfl (Nat.le_of_ble_eq_true rfl) (fun hz => ?_)
  change q_W _ _ _ _ _ _ _ _ _ [.ref (a), .int (xf), .int (xt), q_u, q_u] [] _
  refine q_aload_n (by first | assumption | omega | decide) dX8_attack_0 rfl ?_
  refine q_iload_n dX8_attack_1 rfl ?_
  rcases x1 : x_st_slotOfKnown n id xf with v1 | e1
  · have e9 := e_st_slotOfKnown (g := g) (h := h) (d := d - 1) sst xf (by omega)
    rw [x1] at e9
    refine q_invV (mc' := 1) (ms' := 6) (d' := d - 1) (as := [.int (xf)]) dX8_attack_2 kM_X8_slotOfKnown kL_X8_111 kI_X8_slotOfKnown kS_X8_slotOfKnown rfl (kC_X8.1) sst.c0 rfl rfl (Nat.le_of_ble_eq_true rfl) (by omega) (by decide) (by omega) (by omega) (e9) (q_kR ?_) q_xR
    have f1 := z_slot_lt x1
    change q_W _ _ _ _ _ _ _ _ 5 [.ref (a), .int (xf), .int (xt), q_u, q_u] [.int (nI (v1))] _
    refine q_istore_n dX8_attack_5 (by decide) rfl ?_
    change q_W _ _ _ _ _ _ _ _ _ [.ref (a), .int (xf), .int (xt), .int (nI (v1)), q_u] [] _
    refine q_aload_n (by first | assumption | omega | decide) dX8_attack_6 rfl ?_
    refine q_iload_n dX8_attack_7 rfl ?_
    rcases x3 : x_st_slotOfKnown n id xt with v3 | e3
    · have e9 := e_st_slotOfKnown (g := g) (h := h) (d := d - 1) sst xt (by omega)
      rw [x3] at e9
      refine q_invV (mc' := 1) (ms' := 6) (d' := d - 1) (as := [.int (xt)]) dX8_attack_8 kM_X8_slotOfKnown kL_X8_111 kI_X8_slotOfKnown kS_X8_slotOfKnown rfl (kC_X8.1) sst.c0 rfl rfl (Nat.le_of_ble_eq_true rfl) (by omega) (by decide) (by omega) (by omega) (e9) (q_kR ?_) q_xR
      have f3 := z_slot_lt x3
      change q_W _ _ _ _ _ _ _ _ 11 [.ref (a), .int (xf), .int (xt), .int (nI (v1)), q_u] [.int (nI (v3))] _
      refine q_istore dX8_attack_11 (by decide) rfl ?_
      change q_W _ _ _ _ _ _ _ _ _ [.ref (a), .int (xf), .int (xt), .int (nI (v1)), .int (nI (v3))] [] _
      refine q_iload_n dX8_attack_13 rfl ?_
      refine q_iload dX8_attack_14 rfl ?_
      refine q_icmp_ne 29 dX8_attack_16 (by decide) (fun b16 => ?_) (fun b16 => ?_)
      · have b16 : ¬ (v1 = v3) := fun q => b16 ((nI_eq (a := v1) (b := v3) (by omega) (by omega)).mpr q)
        refine q_aload_n (by first | assumption | omega | decide) dX8_attack_29 rfl ?_
        refine q_getf (k := 3) (v := .ref (a + 4)) kC_X8 kL_X8_21 rfl (by decide) dX8_attack_30 sst.c0 rfl ?_
        refine q_iload_n dX8_attack_33 rfl ?_
        refine q_ialdN (j := v1) (f := tg) dX8_attack_34 sst.c4 (by omega) (by decide) ?_
        change q_W _ _ _ _ _ _ _ _ _ _ [.int (tg v1)] _
        refine q_iload dX8_attack_35 rfl ?_
        refine q_invSN (mc' := 0) (ms' := 0) (d' := d - 1) (as := [.int (tg v1), .int (nI (v3))]) dX8_attack_37 kM_X10_has kN_X8_126 kT_X10_has rfl rfl rfl (Nat.le_of_ble_eq_true rfl) (by omega) (by decide) (by omega) (by omega) (e_has (d := d - 1)) (q_kR ?_) q_xR
        change q_W _ _ _ _ _ _ _ _ 40 [.ref (a), .int (xf), .int (xt), .int (nI (v1)), .int (nI (v3))] [.int (z_b (z_has (tg v1) v3))] _
        refine q_if_eq 53 dX8_attack_40 (by decide) (fun b40 => ?_) (fun b40 => ?_)
        · have b40 := z_b0n b40
          refine q_aload_n (by first | assumption | omega | decide) dX8_attack_53 rfl ?_
          refine q_invV (mc' := 0) (ms' := 0) (d' := d - 1) (as := []) dX8_attack_54 kM_X8_countAttacks kL_X8_154 kI_X8_countAttacks kS_X8_countAttacks rfl (kC_X8.1) sst.c0 rfl rfl (Nat.le_of_ble_eq_true rfl) (by omega) (by decide) (by omega) (by omega) (e_st_countAttacks (d := d - 1) sst (by omega)) (q_kR ?_) q_xR
          change q_W _ _ _ _ _ _ _ _ 57 [.ref (a), .int (xf), .int (xt), .int (nI (v1)), .int (nI (v3))] [.int (x_st_countAttacks n tg)] _
          refine q_bipush (v := 20) dX8_attack_57 rfl ?_
          refine q_icmp_lt 72 dX8_attack_59 (by decide) (fun b59 => ?_) (fun b59 => ?_)
          · refine q_aload_n (by first | assumption | omega | decide) dX8_attack_72 rfl ?_
            refine q_getf (k := 3) (v := .ref (a + 4)) kC_X8 kL_X8_21 rfl (by decide) dX8_attack_73 sst.c0 rfl ?_
            refine q_iload_n dX8_attack_76 rfl ?_
            refine q_dup2 dX8_attack_77 rfl rfl ?_
            refine q_ialdN (j := v1) (f := tg) dX8_attack_78 sst.c4 (by omega) (by decide) ?_
            change q_W _ _ _ _ _ _ _ _ _ _ [.int (tg v1), .int (nI (v1)), .ref (a + 4)] _
            refine q_iconst (v := 1) dX8_attack_79 rfl ?_
            refine q_iload dX8_attack_80 rfl ?_
            refine q_ishl dX8_attack_82 ?_
            refine q_ior dX8_attack_83 ?_
            refine q_iastN (j := v1) dX8_attack_84 sst.c4 (by omega) (by decide) ?_
            refine z_genW (B := fun H => z_S2 H a n id wt ag (upd tg v1 ((tg v1) ||| ((1 : Int32) <<< ((nI (v3)) &&& 31)))) att ni dy mn mv en wo br ∧ q_same h H a 8) ⟨z_S2.put4 sst, p0.trans (q_same.set (by omega) (by omega))⟩ (fun h5 hB => ?_)
            obtain ⟨sst5, p5⟩ := hB
            have hb_st_n := sst5.bn
            have hb_st_mn := sst5.bmn
            refine q_aload_n (by first | assumption | omega | decide) dX8_attack_85 rfl ?_
            rcases x6 : x_st_findAttackers n wt ag (upd tg v1 ((tg v1) ||| ((1 : Int32) <<< ((nI (v3)) &&& 31)))) att with ⟨v6, y6_att⟩
            have e9 := e_st_findAttackers (g := g) (h := h5) (d := d - 1) sst5 (by omega)
            rw [x6] at e9
            refine q_invV (mc' := 0) (ms' := 0) (d' := d - 1) (as := []) dX8_attack_86 kM_X8_findAttackers kL_X8_142 kI_X8_findAttackers kS_X8_findAttackers rfl (kC_X8.1) sst5.c0 rfl rfl (Nat.le_of_ble_eq_true rfl) (by omega) (by decide) (by omega) (by omega) (e9) (q_kC (fun h7 hB => ?_)) q_xC
            obtain ⟨t7_0, pp7⟩ := hB
            have sst7 := t7_0
            have p7 := p5.trans (pp7.wide (by omega) (by omega))
            have hb_st_n := sst7.bn
            have hb_st_mn := sst7.bmn
            change q_W _ _ _ _ _ _ _ _ 89 [.ref (a), .int (xf), .int (xt), .int (nI (v1)), .int (nI (v3))] [.int (v6)] _
            refine q_pop dX8_attack_89 rfl ?_
            refine q_aload_n (by first | assumption | omega | decide) dX8_attack_90 rfl ?_
            obtain ⟨v8, x8⟩ : ∃ z, x_st_countAttacks n (upd tg v1 ((tg v1) ||| ((1 : Int32) <<< ((nI (v3)) &&& 31)))) = z := ⟨_, rfl⟩
            have e9 := e_st_countAttacks (g := g) (h := h7) (d := d - 1) sst7 (by omega)
            rw [x8] at e9
            refine q_invV (mc' := 0) (ms' := 0) (d' := d - 1) (as := []) dX8_attack_91 kM_X8_countAttacks kL_X8_154 kI_X8_countAttacks kS_X8_countAttacks rfl (kC_X8.1) sst7.c0 rfl rfl (Nat.le_of_ble_eq_true rfl) (by omega) (by decide) (by omega) (by omega) (e9) (q_kR ?_) q_xR
            change q_W _ _ _ _ _ _ _ _ 94 [.ref (a), .int (xf), .int (xt), .int (nI (v1)), .int (nI (v3))] [.int (v8)] _
            have hE : x_st_attack n id wt ag tg att xf xt = (.inl v8, upd tg v1 ((tg v1) ||| ((1 : Int32) <<< ((nI (v3)) &&& 31))), y6_att) := by simp only [x_st_attack, x1, x3, if_neg b16, if_neg b40, if_pos b59, x6, x8]
            rw [hE]
            exact q_ireturn dX8_attack_94 rfl rfl (by omega) (by omega) ⟨rfl, sst7, p7⟩
          · have hE : x_st_attack n id wt ag tg att xf xt = (.inr "java/lang/IllegalStateException", tg, att) := by simp only [x_st_attack, x1, x3, if_neg b16, if_neg b40, if_neg b59]
            rw [hE]
            refine q_throw kE_X8_153 kR_X8_170 rfl dX8_attack_62 dX8_attack_65 dX8_attack_66 dX8_attack_68 dX8_attack_71 (Nat.le_of_ble_eq_true rfl) (by omega) (by omega) (by omega) ?_
            exact q_xout rfl ⟨rfl, sst.keep (q_same.skip (a := 0) (k := 0)) (Or.inr (Nat.zero_le _)), p0.trans q_same.skip⟩ (by omega) (by omega)
        · have b40 := z_b1 b40
          have hE : x_st_attack n id wt ag tg att xf xt = (.inr "java/lang/IllegalStateException", tg, att) := by simp only [x_st_attack, x1, x3, if_neg b16, if_pos b40]
          rw [hE]
          refine q_throw kE_X8_153 kR_X8_168 rfl dX8_attack_43 dX8_attack_46 dX8_attack_47 dX8_attack_49 dX8_attack_52 (Nat.le_of_ble_eq_true rfl) (by omega) (by omega) (by omega) ?_
          exact q_xout rfl ⟨rfl, sst.keep (q_same.skip (a := 0) (k := 0)) (Or.inr (Nat.zero_le _)), p0.trans q_same.skip⟩ (by omega) (by omega)
      · have b16 := (nI_eq (a := v1) (b := v3) (by omega) (by omega)).mp b16
        have hE : x_st_attack n id wt ag tg att xf xt = (.inr "java/lang/IllegalArgumentException", tg, att) := by simp only [x_st_attack, x1, x3, if_pos b16]
        rw [hE]
        refine q_throw kE_X8_167 kR_X8_165 rfl dX8_attack_19 dX8_attack_22 dX8_attack_23 dX8_attack_25 dX8_attack_28 (Nat.le_of_ble_eq_true rfl) (by omega) (by omega) (by omega) ?_
        exact q_xout rfl ⟨rfl, sst.keep (q_same.skip (a := 0) (k := 0)) (Or.inr (Nat.zero_le _)), p0.trans q_same.skip⟩ (by omega) (by omega)
    · have e9 := e_st_slotOfKnown (g := g) (h := h) (d := d - 1) sst xt (by omega)
      rw [x3] at e9
      refine q_invV (mc' := 1) (ms' := 6) (d' := d - 1) (as := [.int (xt)]) dX8_attack_8 kM_X8_slotOfKnown kL_X8_111 kI_X8_slotOfKnown kS_X8_slotOfKnown rfl (kC_X8.1) sst.c0 rfl rfl (Nat.le_of_ble_eq_true rfl) (by omega) (by decide) (by omega) (by omega) (e9) q_kT (q_xT ?_)
      have hE : x_st_attack n id wt ag tg att xf xt = (.inr e3, tg, att) := by simp only [x_st_attack, x1, x3]
      rw [hE]
      exact q_xout rfl ⟨rfl, sst.keep (q_same.skip (a := 0) (k := 0)) (Or.inr (Nat.zero_le _)), p0.trans q_same.skip⟩ (by omega) (by omega)
  · have e9 := e_st_slotOfKnown (g := g) (h := h) (d := d - 1) sst xf (by omega)
    rw [x1] at e9
    refine q_invV (mc' := 1) (ms' := 6) (d' := d - 1) (as := [.int (xf)]) dX8_attack_2 kM_X8_slotOfKnown kL_X8_111 kI_X8_slotOfKnown kS_X8_slotOfKnown rfl (kC_X8.1) sst.c0 rfl rfl (Nat.le_of_ble_eq_true rfl) (by omega) (by decide) (by omega) (by omega) (e9) q_kT (q_xT ?_)
    have hE : x_st_attack n id wt ag tg att xf xt = (.inr e1, tg, att) := by simp only [x_st_attack, x1]
    rw [hE]
    exact q_xout rfl ⟨rfl, sst.keep (q_same.skip (a := 0) (k := 0)) (Or.inr (Nat.zero_le _)), p0.trans q_same.skip⟩ (by omega) (by omega)
def x_st_yieldAttack (n : Nat) (id : Nat → Int32) (wt : Nat → Int32) (ag : Nat → Int32) (tg : Nat → Int32) (att : Nat → Int32) (xf : Int32) (xt : Int32) : (Int32 ⊕ String) × (Nat → Int32) × (Nat → Int32) := (match x_st_slotOfKnown n id xf with | (.inl v1) => (match x_st_slotOfKnown n id xt with | (.inl v3) => (if z_has (tg v1) v3 then (match x_st_findAttackers n wt ag (upd tg v1 ((tg v1) &&& (((1 : Int32) <<< ((nI (v3)) &&& 31)) ^^^ (-1 : Int32)))) att with | (v6, y6_att) => (let v8 := x_st_countAttacks n (upd tg v1 ((tg v1) &&& (((1 : Int32) <<< ((nI (v3)) &&& 31)) ^^^ (-1 : Int32)))); (.inl v8, upd tg v1 ((tg v1) &&& (((1 : Int32) <<< ((nI (v3)) &&& 31)) ^^^ (-1 : Int32))), y6_att))) else (.inr "java/util/NoSuchElementException", tg, att)) | (.inr e3) => (.inr e3, tg, att)) | (.inr e1) => (.inr e1, tg, att))
set_option maxRecDepth 100000 in
set_option maxHeartbeats 8000000 in
theorem e_st_yieldAttack {g : q_G} {h : q_H} {d : Nat} {a : Nat} {n : Nat} {id : Nat → Int32} {wt : Nat → Int32} {ag : Nat → Int32} {tg : Nat → Int32} {att : Nat → Int32} {ni : Int32} {dy : Int32} {mn : Nat} {mv : Nat → Int32} {en : Int32} {wo : Int32} {br : Int32} (sst : z_S2 h a n id wt ag tg att ni dy mn mv en wo br) (xf : Int32) (xt : Int32)   (hd : 8 ≤ d) : q_Spec g mX8_yieldAttack d 3 18 [.ref (a), .int (xf), .int (xt)] h (q_chg (q_oI (x_st_yieldAttack n id wt ag tg att xf xt).1) (fun h1 => z_S2 h1 a n id wt ag ((x_st_yieldAttack n id wt ag tg att xf xt).2.1) ((x_st_yieldAttack n id wt ag tg att xf xt).2.2) ni dy mn mv en wo br ∧ q_same h h1 a 8)) := by
  have hr_st := sst.r0
  have hb_st_n := sst.bn
  have hb_st_mn := sst.bmn
  have ho_st_n := sst.bn
  have ho_st_mn := sst.bmn
  have p0 : q_same h h a 8 := q_same.rfl'
  refine q_enter (by decide +kernel) rfl rfl (Nat.le_of_ble_eq_true rfl) (fun hz => ?_)
  change q_W _ _ _ _ _ _ _ _ _ [.ref (a), .int (xf), .int (xt), q_u, q_u] [] _
  refine q_aload_n (by first | assumption | omega | decide) dX8_yieldAttack_0 rfl ?_
  refine q_iload_n dX8_yieldAttack_1 rfl ?_
  rcases x1 : x_st_slotOfKnown n id xf with v1 | e1
  · have e9 := e_st_slotOfKnown (g := g) (h := h) (d := d - 1) sst xf (by omega)
    rw [x1] at e9
    refine q_invV (mc' := 1) (ms' := 6) (d' := d - 1) (as := [.int (xf)]) dX8_yieldAttack_2 kM_X8_slotOfKnown kL_X8_111 kI_X8_slotOfKnown kS_X8_slotOfKnown rfl (kC_X8.1) sst.c0 rfl rfl (Nat.le_of_ble_eq_true rfl) (by omega) (by decide) (by omega) (by omega) (e9) (q_kR ?_) q_xR
    have f1 := z_slot_lt x1
    change q_W _ _ _ _ _ _ _ _ 5 [.ref (a), .int (xf), .int (xt), q_u, q_u] [.int (nI (v1))] _
    refine q_istore_n dX8_yieldAttack_5 (by decide) rfl ?_
    change q_W _ _ _ _ _ _ _ _ _ [.ref (a), .int (xf), .int (xt), .int (nI (v1)), q_u] [] _
    refine q_aload_n (by first | assumption | omega | decide) dX8_yieldAttack_6 rfl ?_
    refine q_iload_n dX8_yieldAttack_7 rfl ?_
    rcases x3 : x_st_slotOfKnown n id xt with v3 | e3
    · have e9 := e_st_slotOfKnown (g := g) (h := h) (d := d - 1) sst xt (by omega)
      rw [x3] at e9
      refine q_invV (mc' := 1) (ms' := 6) (d' := d - 1) (as := [.int (xt)]) dX8_yieldAttack_8 kM_X8_slotOfKnown kL_X8_111 kI_X8_slotOfKnown kS_X8_slotOfKnown rfl (kC_X8.1) sst.c0 rfl rfl (Nat.le_of_ble_eq_true rfl) (by omega) (by decide) (by omega) (by omega) (e9) (q_kR ?_) q_xR
      have f3 := z_slot_lt x3
      change q_W _ _ _ _ _ _ _ _ 11 [.ref (a), .int (xf), .int (xt), .int (nI (v1)), q_u] [.int (nI (v3))] _
      refine q_istore dX8_yieldAttack_11 (by decide) rfl ?_
      change q_W _ _ _ _ _ _ _ _ _ [.ref (a), .int (xf), .int (xt), .int (nI (v1)), .int (nI (v3))] [] _
      refine q_aload_n (by first | assumption | omega | decide) dX8_yieldAttack_13 rfl ?_
      refine q_getf (k := 3) (v := .ref (a + 4)) kC_X8 kL_X8_21 rfl (by decide) dX8_yieldAttack_14 sst.c0 rfl ?_
      refine q_iload_n dX8_yieldAttack_17 rfl ?_
      refine q_ialdN (j := v1) (f := tg) dX8_yieldAttack_18 sst.c4 (by omega) (by decide) ?_
      change q_W _ _ _ _ _ _ _ _ _ _ [.int (tg v1)] _
      refine q_iload dX8_yieldAttack_19 rfl ?_
      refine q_invSN (mc' := 0) (ms' := 0) (d' := d - 1) (as := [.int (tg v1), .int (nI (v3))]) dX8_yieldAttack_21 kM_X10_has kN_X8_126 kT_X10_has rfl rfl rfl (Nat.le_of_ble_eq_true rfl) (by omega) (by decide) (by omega) (by omega) (e_has (d := d - 1)) (q_kR ?_) q_xR
      change q_W _ _ _ _ _ _ _ _ 24 [.ref (a), .int (xf), .int (xt), .int (nI (v1)), .int (nI (v3))] [.int (z_b (z_has (tg v1) v3))] _
      refine q_if_ne 37 dX8_yieldAttack_24 (by decide) (fun b24 => ?_) (fun b24 => ?_)
      · have b24 := z_b1 b24
        refine q_aload_n (by first | assumption | omega | decide) dX8_yieldAttack_37 rfl ?_
        refine q_getf (k := 3) (v := .ref (a + 4)) kC_X8 kL_X8_21 rfl (by decide) dX8_yieldAttack_38 sst.c0 rfl ?_
        refine q_iload_n dX8_yieldAttack_41 rfl ?_
        refine q_dup2 dX8_yieldAttack_42 rfl rfl ?_
        refine q_ialdN (j := v1) (f := tg) dX8_yieldAttack_43 sst.c4 (by omega) (by decide) ?_
        change q_W _ _ _ _ _ _ _ _ _ _ [.int (tg v1), .int (nI (v1)), .ref (a + 4)] _
        refine q_iconst (v := 1) dX8_yieldAttack_44 rfl ?_
        refine q_iload dX8_yieldAttack_45 rfl ?_
        refine q_ishl dX8_yieldAttack_47 ?_
        refine q_iconst (v := -1) dX8_yieldAttack_48 rfl ?_
        refine q_ixor dX8_yieldAttack_49 ?_
        refine q_iand dX8_yieldAttack_50 ?_
        refine q_iastN (j := v1) dX8_yieldAttack_51 sst.c4 (by omega) (by decide) ?_
        refine z_genW (B := fun H => z_S2 H a n id wt ag (upd tg v1 ((tg v1) &&& (((1 : Int32) <<< ((nI (v3)) &&& 31)) ^^^ (-1 : Int32)))) att ni dy mn mv en wo br ∧ q_same h H a 8) ⟨z_S2.put4 sst, p0.trans (q_same.set (by omega) (by omega))⟩ (fun h5 hB => ?_)
        obtain ⟨sst5, p5⟩ := hB
        have hb_st_n := sst5.bn
        have hb_st_mn := sst5.bmn
        refine q_aload_n (by first | assumption | omega | decide) dX8_yieldAttack_52 rfl ?_
        rcases x6 : x_st_findAttackers n wt ag (upd tg v1 ((tg v1) &&& (((1 : Int32) <<< ((nI (v3)) &&& 31)) ^^^ (-1 : Int32)))) att with ⟨v6, y6_att⟩
        have e9 := e_st_findAttackers (g := g) (h := h5) (d := d - 1) sst5 (by omega)
        rw [x6] at e9
        refine q_invV (mc' := 0) (ms' := 0) (d' := d - 1) (as := []) dX8_yieldAttack_53 kM_X8_findAttackers kL_X8_142 kI_X8_findAttackers kS_X8_findAttackers rfl (kC_X8.1) sst5.c0 rfl rfl (Nat.le_of_ble_eq_true rfl) (by omega) (by decide) (by omega) (by omega) (e9) (q_kC (fun h7 hB => ?_)) q_xC
        obtain ⟨t7_0, pp7⟩ := hB
        have sst7 := t7_0
        have p7 := p5.trans (pp7.wide (by omega) (by omega))
        have hb_st_n := sst7.bn
        have hb_st_mn := sst7.bmn
        change q_W _ _ _ _ _ _ _ _ 56 [.ref (a), .int (xf), .int (xt), .int (nI (v1)), .int (nI (v3))] [.int (v6)] _
        refine q_pop dX8_yieldAttack_56 rfl ?_
        refine q_aload_n (by first | assumption | omega | decide) dX8_yieldAttack_57 rfl ?_
        obtain ⟨v8, x8⟩ : ∃ z, x_st_countAttacks n (upd tg v1 ((tg v1) &&& (((1 : Int32) <<< ((nI (v3)) &&& 31)) ^^^ (-1 : Int32)))) = z := ⟨_, rfl⟩
        have e9 := e_st_countAttacks (g := g) (h := h7) (d := d - 1) sst7 (by omega)
        rw [x8] at e9
        refine q_invV (mc' := 0) (ms' := 0) (d' := d - 1) (as := []) dX8_yieldAttack_58 kM_X8_countAttacks kL_X8_154 kI_X8_countAttacks kS_X8_countAttacks rfl (kC_X8.1) sst7.c0 rfl rfl (Nat.le_of_ble_eq_true rfl) (by omega) (by decide) (by omega) (by omega) (e9) (q_kR ?_) q_xR
        change q_W _ _ _ _ _ _ _ _ 61 [.ref (a), .int (xf), .int (xt), .int (nI (v1)), .int (nI (v3))] [.int (v8)] _
        have hE : x_st_yieldAttack n id wt ag tg att xf xt = (.inl v8, upd tg v1 ((tg v1) &&& (((1 : Int32) <<< ((nI (v3)) &&& 31)) ^^^ (-1 : Int32))), y6_att) := by simp only [x_st_yieldAttack, x1, x3, if_pos b24, x6, x8]
        rw [hE]
        exact q_ireturn dX8_yieldAttack_61 rfl rfl (by omega) (by omega) ⟨rfl, sst7, p7⟩
      · have b24 := z_b0n b24
        have hE : x_st_yieldAttack n id wt ag tg att xf xt = (.inr "java/util/NoSuchElementException", tg, att) := by simp only [x_st_yieldAttack, x1, x3, if_neg b24]
        rw [hE]
        refine q_throw kE_X8_105 kR_X8_172 rfl dX8_yieldAttack_27 dX8_yieldAttack_30 dX8_yieldAttack_31 dX8_yieldAttack_33 dX8_yieldAttack_36 (Nat.le_of_ble_eq_true rfl) (by omega) (by omega) (by omega) ?_
        exact q_xout rfl ⟨rfl, sst.keep (q_same.skip (a := 0) (k := 0)) (Or.inr (Nat.zero_le _)), p0.trans q_same.skip⟩ (by omega) (by omega)
    · have e9 := e_st_slotOfKnown (g := g) (h := h) (d := d - 1) sst xt (by omega)
      rw [x3] at e9
      refine q_invV (mc' := 1) (ms' := 6) (d' := d - 1) (as := [.int (xt)]) dX8_yieldAttack_8 kM_X8_slotOfKnown kL_X8_111 kI_X8_slotOfKnown kS_X8_slotOfKnown rfl (kC_X8.1) sst.c0 rfl rfl (Nat.le_of_ble_eq_true rfl) (by omega) (by decide) (by omega) (by omega) (e9) q_kT (q_xT ?_)
      have hE : x_st_yieldAttack n id wt ag tg att xf xt = (.inr e3, tg, att) := by simp only [x_st_yieldAttack, x1, x3]
      rw [hE]
      exact q_xout rfl ⟨rfl, sst.keep (q_same.skip (a := 0) (k := 0)) (Or.inr (Nat.zero_le _)), p0.trans q_same.skip⟩ (by omega) (by omega)
  · have e9 := e_st_slotOfKnown (g := g) (h := h) (d := d - 1) sst xf (by omega)
    rw [x1] at e9
    refine q_invV (mc' := 1) (ms' := 6) (d' := d - 1) (as := [.int (xf)]) dX8_yieldAttack_2 kM_X8_slotOfKnown kL_X8_111 kI_X8_slotOfKnown kS_X8_slotOfKnown rfl (kC_X8.1) sst.c0 rfl rfl (Nat.le_of_ble_eq_true rfl) (by omega) (by decide) (by omega) (by omega) (e9) q_kT (q_xT ?_)
    have hE : x_st_yieldAttack n id wt ag tg att xf xt = (.inr e1, tg, att) := by simp only [x_st_yieldAttack, x1]
    rw [hE]
    exact q_xout rfl ⟨rfl, sst.keep (q_same.skip (a := 0) (k := 0)) (Or.inr (Nat.zero_le _)), p0.trans q_same.skip⟩ (by omega) (by omega)
def x_st_weigh (n : Nat) (id : Nat → Int32) (wt : Nat → Int32) (ag : Nat → Int32) (tg : Nat → Int32) (att : Nat → Int32) (xid : Int32) (xw : Int32) : (Int32 ⊕ String) × (Nat → Int32) × (Nat → Int32) := (match x_st_slotOfKnown n id xid with | (.inl v1) => (match x_st_mustBeWeight xw with | (.inl v3) => (match x_st_findAttackers n (upd wt v1 (xw)) ag tg att with | (v6, y6_att) => (.inl (wt v1), upd wt v1 (xw), y6_att)) | (.inr e3) => (.inr e3, wt, att)) | (.inr e1) => (.inr e1, wt, att))
set_option maxRecDepth 100000 in
set_option maxHeartbeats 8000000 in
theorem e_st_weigh {g : q_G} {h : q_H} {d : Nat} {a : Nat} {n : Nat} {id : Nat → Int32} {wt : Nat → Int32} {ag : Nat → Int32} {tg : Nat → Int32} {att : Nat → Int32} {ni : Int32} {dy : Int32} {mn : Nat} {mv : Nat → Int32} {en : Int32} {wo : Int32} {br : Int32} (sst : z_S2 h a n id wt ag tg att ni dy mn mv en wo br) (xid : Int32) (xw : Int32)   (hd : 8 ≤ d) : q_Spec g mX8_weigh d 2 12 [.ref (a), .int (xid), .int (xw)] h (q_chg (q_oI (x_st_weigh n id wt ag tg att xid xw).1) (fun h1 => z_S2 h1 a n id ((x_st_weigh n id wt ag tg att xid xw).2.1) ag tg ((x_st_weigh n id wt ag tg att xid xw).2.2) ni dy mn mv en wo br ∧ q_same h h1 a 8)) := by
  have hr_st := sst.r0
  have hb_st_n := sst.bn
  have hb_st_mn := sst.bmn
  have ho_st_n := sst.bn
  have ho_st_mn := sst.bmn
  have p0 : q_same h h a 8 := q_same.rfl'
  refine q_enter (by decide +kernel) rfl rfl (Nat.le_of_ble_eq_true rfl) (fun hz => ?_)
  change q_W _ _ _ _ _ _ _ _ _ [.ref (a), .int (xid), .int (xw), q_u, q_u] [] _
  refine q_aload_n (by first | assumption | omega | decide) dX8_weigh_0 rfl ?_
  refine q_iload_n dX8_weigh_1 rfl ?_
  rcases x1 : x_st_slotOfKnown n id xid with v1 | e1
  · have e9 := e_st_slotOfKnown (g := g) (h := h) (d := d - 1) sst xid (by omega)
    rw [x1] at e9
    refine q_invV (mc' := 1) (ms' := 6) (d' := d - 1) (as := [.int (xid)]) dX8_weigh_2 kM_X8_slotOfKnown kL_X8_111 kI_X8_slotOfKnown kS_X8_slotOfKnown rfl (kC_X8.1) sst.c0 rfl rfl (Nat.le_of_ble_eq_true rfl) (by omega) (by decide) (by omega) (by omega) (e9) (q_kR ?_) q_xR
    have f1 := z_slot_lt x1
    change q_W _ _ _ _ _ _ _ _ 5 [.ref (a), .int (xid), .int (xw), q_u, q_u] [.int (nI (v1))] _
    refine q_istore_n dX8_weigh_5 (by decide) rfl ?_
    change q_W _ _ _ _ _ _ _ _ _ [.ref (a), .int (xid), .int (xw), .int (nI (v1)), q_u] [] _
    refine q_iload_n dX8_weigh_6 rfl ?_
    rcases x3 : x_st_mustBeWeight xw with v3 | e3
    · have e9 := e_st_mustBeWeight (g := g) (h := h) (d := d - 1) xw (by omega)
      rw [x3] at e9
      refine q_invS (mc' := 1) (ms' := 6) (d' := d - 1) (as := [.int (xw)]) dX8_weigh_7 kM_X8_mustBeWeight kL_X8_145 kT_X8_mustBeWeight rfl rfl rfl (Nat.le_of_ble_eq_true rfl) (by omega) (by decide) (by omega) (by omega) (e9) (q_kR ?_) q_xR
      change q_W _ _ _ _ _ _ _ _ 10 [.ref (a), .int (xid), .int (xw), .int (nI (v1)), q_u] [] _
      refine q_aload_n (by first | assumption | omega | decide) dX8_weigh_10 rfl ?_
      refine q_getf (k := 1) (v := .ref (a + 2)) kC_X8 kL_X8_15 rfl (by decide) dX8_weigh_11 sst.c0 rfl ?_
      refine q_iload_n dX8_weigh_14 rfl ?_
      refine q_ialdN (j := v1) (f := wt) dX8_weigh_15 sst.c2 (by omega) (by decide) ?_
      change q_W _ _ _ _ _ _ _ _ _ _ [.int (wt v1)] _
      refine q_istore dX8_weigh_16 (by decide) rfl ?_
      change q_W _ _ _ _ _ _ _ _ _ [.ref (a), .int (xid), .int (xw), .int (nI (v1)), .int (wt v1)] [] _
      refine q_aload_n (by first | assumption | omega | decide) dX8_weigh_18 rfl ?_
      refine q_getf (k := 1) (v := .ref (a + 2)) kC_X8 kL_X8_15 rfl (by decide) dX8_weigh_19 sst.c0 rfl ?_
      refine q_iload_n dX8_weigh_22 rfl ?_
      refine q_iload_n dX8_weigh_23 rfl ?_
      refine q_iastN (j := v1) dX8_weigh_24 sst.c2 (by omega) (by decide) ?_
      refine z_genW (B := fun H => z_S2 H a n id (upd wt v1 (xw)) ag tg att ni dy mn mv en wo br ∧ q_same h H a 8) ⟨z_S2.put2 sst, p0.trans (q_same.set (by omega) (by omega))⟩ (fun h5 hB => ?_)
      obtain ⟨sst5, p5⟩ := hB
      have hb_st_n := sst5.bn
      have hb_st_mn := sst5.bmn
      refine q_aload_n (by first | assumption | omega | decide) dX8_weigh_25 rfl ?_
      rcases x6 : x_st_findAttackers n (upd wt v1 (xw)) ag tg att with ⟨v6, y6_att⟩
      have e9 := e_st_findAttackers (g := g) (h := h5) (d := d - 1) sst5 (by omega)
      rw [x6] at e9
      refine q_invV (mc' := 0) (ms' := 0) (d' := d - 1) (as := []) dX8_weigh_26 kM_X8_findAttackers kL_X8_142 kI_X8_findAttackers kS_X8_findAttackers rfl (kC_X8.1) sst5.c0 rfl rfl (Nat.le_of_ble_eq_true rfl) (by omega) (by decide) (by omega) (by omega) (e9) (q_kC (fun h7 hB => ?_)) q_xC
      obtain ⟨t7_0, pp7⟩ := hB
      have sst7 := t7_0
      have p7 := p5.trans (pp7.wide (by omega) (by omega))
      have hb_st_n := sst7.bn
      have hb_st_mn := sst7.bmn
      change q_W _ _ _ _ _ _ _ _ 29 [.ref (a), .int (xid), .int (xw), .int (nI (v1)), .int (wt v1)] [.int (v6)] _
      refine q_pop dX8_weigh_29 rfl ?_
      refine q_iload dX8_weigh_30 rfl ?_
      have hE : x_st_weigh n id wt ag tg att xid xw = (.inl (wt v1), upd wt v1 (xw), y6_att) := by simp only [x_st_weigh, x1, x3, x6]
      rw [hE]
      exact q_ireturn dX8_weigh_32 rfl rfl (by omega) (by omega) ⟨rfl, sst7, p7⟩
    · have e9 := e_st_mustBeWeight (g := g) (h := h) (d := d - 1) xw (by omega)
      rw [x3] at e9
      refine q_invS (mc' := 1) (ms' := 6) (d' := d - 1) (as := [.int (xw)]) dX8_weigh_7 kM_X8_mustBeWeight kL_X8_145 kT_X8_mustBeWeight rfl rfl rfl (Nat.le_of_ble_eq_true rfl) (by omega) (by decide) (by omega) (by omega) (e9) q_kT (q_xT ?_)
      have hE : x_st_weigh n id wt ag tg att xid xw = (.inr e3, wt, att) := by simp only [x_st_weigh, x1, x3]
      rw [hE]
      exact q_xout rfl ⟨rfl, sst.keep (q_same.skip (a := 0) (k := 0)) (Or.inr (Nat.zero_le _)), p0.trans q_same.skip⟩ (by omega) (by omega)
  · have e9 := e_st_slotOfKnown (g := g) (h := h) (d := d - 1) sst xid (by omega)
    rw [x1] at e9
    refine q_invV (mc' := 1) (ms' := 6) (d' := d - 1) (as := [.int (xid)]) dX8_weigh_2 kM_X8_slotOfKnown kL_X8_111 kI_X8_slotOfKnown kS_X8_slotOfKnown rfl (kC_X8.1) sst.c0 rfl rfl (Nat.le_of_ble_eq_true rfl) (by omega) (by decide) (by omega) (by omega) (e9) q_kT (q_xT ?_)
    have hE : x_st_weigh n id wt ag tg att xid xw = (.inr e1, wt, att) := by simp only [x_st_weigh, x1]
    rw [hE]
    exact q_xout rfl ⟨rfl, sst.keep (q_same.skip (a := 0) (k := 0)) (Or.inr (Nat.zero_le _)), p0.trans q_same.skip⟩ (by omega) (by omega)
def x_st_makeNew (n : Nat) (id : Nat → Int32) (wt : Nat → Int32) (ag : Nat → Int32) (tg : Nat → Int32) (att : Nat → Int32) (xid : Int32) : (Int32 ⊕ String) × (Nat → Int32) × (Nat → Int32) := (match x_st_slotOfKnown n id xid with | (.inl v1) => (match x_st_findAttackers n wt (upd ag v1 (0)) tg att with | (v4, y4_att) => (.inl (ag v1), upd ag v1 (0), y4_att)) | (.inr e1) => (.inr e1, ag, att))
set_option maxRecDepth 100000 in
set_option maxHeartbeats 8000000 in
theorem e_st_makeNew {g : q_G} {h : q_H} {d : Nat} {a : Nat} {n : Nat} {id : Nat → Int32} {wt : Nat → Int32} {ag : Nat → Int32} {tg : Nat → Int32} {att : Nat → Int32} {ni : Int32} {dy : Int32} {mn : Nat} {mv : Nat → Int32} {en : Int32} {wo : Int32} {br : Int32} (sst : z_S2 h a n id wt ag tg att ni dy mn mv en wo br) (xid : Int32)   (hd : 8 ≤ d) : q_Spec g mX8_makeNew d 1 6 [.ref (a), .int (xid)] h (q_chg (q_oI (x_st_makeNew n id wt ag tg att xid).1) (fun h1 => z_S2 h1 a n id wt ((x_st_makeNew n id wt ag tg att xid).2.1) tg ((x_st_makeNew n id wt ag tg att xid).2.2) ni dy mn mv en wo br ∧ q_same h h1 a 8)) := by
  have hr_st := sst.r0
  have hb_st_n := sst.bn
  have hb_st_mn := sst.bmn
  have ho_st_n := sst.bn
  have ho_st_mn := sst.bmn
  have p0 : q_same h h a 8 := q_same.rfl'
  refine q_enter (by decide +kernel) rfl rfl (Nat.le_of_ble_eq_true rfl) (fun hz => ?_)
  change q_W _ _ _ _ _ _ _ _ _ [.ref (a), .int (xid), q_u, q_u] [] _
  refine q_aload_n (by first | assumption | omega | decide) dX8_makeNew_0 rfl ?_
  refine q_iload_n dX8_makeNew_1 rfl ?_
  rcases x1 : x_st_slotOfKnown n id xid with v1 | e1
  · have e9 := e_st_slotOfKnown (g := g) (h := h) (d := d - 1) sst xid (by omega)
    rw [x1] at e9
    refine q_invV (mc' := 1) (ms' := 6) (d' := d - 1) (as := [.int (xid)]) dX8_makeNew_2 kM_X8_slotOfKnown kL_X8_111 kI_X8_slotOfKnown kS_X8_slotOfKnown rfl (kC_X8.1) sst.c0 rfl rfl (Nat.le_of_ble_eq_true rfl) (by omega) (by decide) (by omega) (by omega) (e9) (q_kR ?_) q_xR
    have f1 := z_slot_lt x1
    change q_W _ _ _ _ _ _ _ _ 5 [.ref (a), .int (xid), q_u, q_u] [.int (nI (v1))] _
    refine q_istore_n dX8_makeNew_5 (by decide) rfl ?_
    change q_W _ _ _ _ _ _ _ _ _ [.ref (a), .int (xid), .int (nI (v1)), q_u] [] _
    refine q_aload_n (by first | assumption | omega | decide) dX8_makeNew_6 rfl ?_
    refine q_getf (k := 2) (v := .ref (a + 3)) kC_X8 kL_X8_18 rfl (by decide) dX8_makeNew_7 sst.c0 rfl ?_
    refine q_iload_n dX8_makeNew_10 rfl ?_
    refine q_ialdN (j := v1) (f := ag) dX8_makeNew_11 sst.c3 (by omega) (by decide) ?_
    change q_W _ _ _ _ _ _ _ _ _ _ [.int (ag v1)] _
    refine q_istore_n dX8_makeNew_12 (by decide) rfl ?_
    change q_W _ _ _ _ _ _ _ _ _ [.ref (a), .int (xid), .int (nI (v1)), .int (ag v1)] [] _
    refine q_aload_n (by first | assumption | omega | decide) dX8_makeNew_13 rfl ?_
    refine q_getf (k := 2) (v := .ref (a + 3)) kC_X8 kL_X8_18 rfl (by decide) dX8_makeNew_14 sst.c0 rfl ?_
    refine q_iload_n dX8_makeNew_17 rfl ?_
    refine q_iconst (v := 0) dX8_makeNew_18 rfl ?_
    refine q_iastN (j := v1) dX8_makeNew_19 sst.c3 (by omega) (by decide) ?_
    refine z_genW (B := fun H => z_S2 H a n id wt (upd ag v1 (0)) tg att ni dy mn mv en wo br ∧ q_same h H a 8) ⟨z_S2.put3 sst, p0.trans (q_same.set (by omega) (by omega))⟩ (fun h3 hB => ?_)
    obtain ⟨sst3, p3⟩ := hB
    have hb_st_n := sst3.bn
    have hb_st_mn := sst3.bmn
    refine q_aload_n (by first | assumption | omega | decide) dX8_makeNew_20 rfl ?_
    rcases x4 : x_st_findAttackers n wt (upd ag v1 (0)) tg att with ⟨v4, y4_att⟩
    have e9 := e_st_findAttackers (g := g) (h := h3) (d := d - 1) sst3 (by omega)
    rw [x4] at e9
    refine q_invV (mc' := 0) (ms' := 0) (d' := d - 1) (as := []) dX8_makeNew_21 kM_X8_findAttackers kL_X8_142 kI_X8_findAttackers kS_X8_findAttackers rfl (kC_X8.1) sst3.c0 rfl rfl (Nat.le_of_ble_eq_true rfl) (by omega) (by decide) (by omega) (by omega) (e9) (q_kC (fun h5 hB => ?_)) q_xC
    obtain ⟨t5_0, pp5⟩ := hB
    have sst5 := t5_0
    have p5 := p3.trans (pp5.wide (by omega) (by omega))
    have hb_st_n := sst5.bn
    have hb_st_mn := sst5.bmn
    change q_W _ _ _ _ _ _ _ _ 24 [.ref (a), .int (xid), .int (nI (v1)), .int (ag v1)] [.int (v4)] _
    refine q_pop dX8_makeNew_24 rfl ?_
    refine q_iload_n dX8_makeNew_25 rfl ?_
    have hE : x_st_makeNew n id wt ag tg att xid = (.inl (ag v1), upd ag v1 (0), y4_att) := by simp only [x_st_makeNew, x1, x4]
    rw [hE]
    exact q_ireturn dX8_makeNew_26 rfl rfl (by omega) (by omega) ⟨rfl, sst5, p5⟩
  · have e9 := e_st_slotOfKnown (g := g) (h := h) (d := d - 1) sst xid (by omega)
    rw [x1] at e9
    refine q_invV (mc' := 1) (ms' := 6) (d' := d - 1) (as := [.int (xid)]) dX8_makeNew_2 kM_X8_slotOfKnown kL_X8_111 kI_X8_slotOfKnown kS_X8_slotOfKnown rfl (kC_X8.1) sst.c0 rfl rfl (Nat.le_of_ble_eq_true rfl) (by omega) (by decide) (by omega) (by omega) (e9) q_kT (q_xT ?_)
    have hE : x_st_makeNew n id wt ag tg att xid = (.inr e1, ag, att) := by simp only [x_st_makeNew, x1]
    rw [hE]
    exact q_xout rfl ⟨rfl, sst.keep (q_same.skip (a := 0) (k := 0)) (Or.inr (Nat.zero_le _)), p0.trans q_same.skip⟩ (by omega) (by omega)
def x_st_claim (n : Nat) (id : Nat → Int32) (att : Nat → Int32) (mn : Nat) (mv : Nat → Int32) (xid : Int32) : (Int32 ⊕ String) × (Nat) × (Nat → Int32) := (match x_st_slotOfKnown n id xid with | (.inl v1) => (if x_dl_isHeld mn then (.inr "java/lang/IllegalStateException", mn, mv) else (match x_dl_add mn mv xid with | (y3_mn, y3_mv) => (.inl (z_bc (att v1)), y3_mn, y3_mv))) | (.inr e1) => (.inr e1, mn, mv))
set_option maxRecDepth 100000 in
set_option maxHeartbeats 8000000 in
theorem e_st_claim {g : q_G} {h : q_H} {d : Nat} {a : Nat} {n : Nat} {id : Nat → Int32} {wt : Nat → Int32} {ag : Nat → Int32} {tg : Nat → Int32} {att : Nat → Int32} {ni : Int32} {dy : Int32} {mn : Nat} {mv : Nat → Int32} {en : Int32} {wo : Int32} {br : Int32} (sst : z_S2 h a n id wt ag tg att ni dy mn mv en wo br) (xid : Int32)   (hd : 8 ≤ d) : q_Spec g mX8_claim d 2 12 [.ref (a), .int (xid)] h (q_chg (q_oI (x_st_claim n id att mn mv xid).1) (fun h1 => z_S2 h1 a n id wt ag tg att ni dy ((x_st_claim n id att mn mv xid).2.1) ((x_st_claim n id att mn mv xid).2.2) en wo br ∧ q_same h h1 a 8)) := by
  have hr_st := sst.r0
  have hb_st_n := sst.bn
  have hb_st_mn := sst.bmn
  have ho_st_n := sst.bn
  have ho_st_mn := sst.bmn
  have p0 : q_same h h a 8 := q_same.rfl'
  refine q_enter (by decide +kernel) rfl rfl (Nat.le_of_ble_eq_true rfl) (fun hz => ?_)
  change q_W _ _ _ _ _ _ _ _ _ [.ref (a), .int (xid), q_u] [] _
  refine q_aload_n (by first | assumption | omega | decide) dX8_claim_0 rfl ?_
  refine q_iload_n dX8_claim_1 rfl ?_
  rcases x1 : x_st_slotOfKnown n id xid with v1 | e1
  · have e9 := e_st_slotOfKnown (g := g) (h := h) (d := d - 1) sst xid (by omega)
    rw [x1] at e9
    refine q_invV (mc' := 1) (ms' := 6) (d' := d - 1) (as := [.int (xid)]) dX8_claim_2 kM_X8_slotOfKnown kL_X8_111 kI_X8_slotOfKnown kS_X8_slotOfKnown rfl (kC_X8.1) sst.c0 rfl rfl (Nat.le_of_ble_eq_true rfl) (by omega) (by decide) (by omega) (by omega) (e9) (q_kR ?_) q_xR
    have f1 := z_slot_lt x1
    change q_W _ _ _ _ _ _ _ _ 5 [.ref (a), .int (xid), q_u] [.int (nI (v1))] _
    refine q_istore_n dX8_claim_5 (by decide) rfl ?_
    change q_W _ _ _ _ _ _ _ _ _ [.ref (a), .int (xid), .int (nI (v1))] [] _
    refine q_aload_n (by first | assumption | omega | decide) dX8_claim_6 rfl ?_
    refine q_getf (k := 5) (v := .ref (a + 6)) kC_X8 kL_X8_30 rfl (by decide) dX8_claim_7 sst.c0 rfl ?_
    refine q_invV (mc' := 0) (ms' := 0) (d' := d - 1) (as := []) dX8_claim_10 kM_X2_isHeld kL_X8_174 kI_X2_isHeld kS_X2_isHeld rfl (kC_X2.1) sst.c6 rfl rfl (Nat.le_of_ble_eq_true rfl) (by omega) (by decide) (by omega) (by omega) (e_dl_isHeld (d := d - 1) (sst.dl) (by omega)) (q_kR ?_) q_xR
    change q_W _ _ _ _ _ _ _ _ 13 [.ref (a), .int (xid), .int (nI (v1))] [.int (z_b (x_dl_isHeld mn))] _
    refine q_if_eq 26 dX8_claim_13 (by decide) (fun b13 => ?_) (fun b13 => ?_)
    · have b13 := z_b0n b13
      have fb13 : mn = 0 := z_nheld b13
      refine q_aload_n (by first | assumption | omega | decide) dX8_claim_26 rfl ?_
      refine q_getf (k := 5) (v := .ref (a + 6)) kC_X8 kL_X8_30 rfl (by decide) dX8_claim_27 sst.c0 rfl ?_
      refine q_iload_n dX8_claim_30 rfl ?_
      rcases x3 : x_dl_add mn mv xid with ⟨y3_mn, y3_mv⟩
      have e9 := e_dl_add (g := g) (h := h) (d := d - 1) (sst.dl) xid (by omega)
      rw [x3] at e9
      refine q_invV (mc' := 0) (ms' := 0) (d' := d - 1) (as := [.int (xid)]) dX8_claim_31 kM_X2_add kL_X8_180 kI_X2_add kS_X2_add rfl (kC_X2.1) sst.c6 rfl rfl (Nat.le_of_ble_eq_true rfl) (by omega) (by decide) (by omega) (by omega) (e9) (q_kC (fun h4 hB => ?_)) q_xC
      obtain ⟨t4_0, pp4⟩ := hB
      have sst4 := sst.ofdl t4_0 pp4
      have p4 := p0.trans (pp4.wide (by omega) (by omega))
      have hb_st_n := sst4.bn
      have hb_st_mn := sst4.bmn
      change q_W _ _ _ _ _ _ _ _ 34 [.ref (a), .int (xid), .int (nI (v1))] [] _
      refine q_aload_n (by first | assumption | omega | decide) dX8_claim_34 rfl ?_
      refine q_getf (k := 4) (v := .ref (a + 5)) kC_X8 kL_X8_24 rfl (by decide) dX8_claim_35 sst4.c0 rfl ?_
      refine q_iload_n dX8_claim_38 rfl ?_
      refine q_ialdN (j := v1) (f := att) dX8_claim_39 sst4.c5 (by omega) (by decide) ?_
      change q_W _ _ _ _ _ _ _ _ _ _ [.int (att v1)] _
      refine q_invS (mc' := 0) (ms' := 0) (d' := d - 1) (as := [.int (att v1)]) dX8_claim_40 kM_J6_bitCount_0f7a4 kL_X8_114 kT_J6_bitCount_0f7a4 rfl rfl rfl (Nat.le_of_ble_eq_true rfl) (by omega) (by decide) (by omega) (by omega) (e_bitCount (d := d - 1)) (q_kR ?_) q_xR
      change q_W _ _ _ _ _ _ _ _ 43 [.ref (a), .int (xid), .int (nI (v1))] [.int (z_bc (att v1))] _
      have hE : x_st_claim n id att mn mv xid = (.inl (z_bc (att v1)), y3_mn, y3_mv) := by simp only [x_st_claim, x1, if_neg b13, x3]
      rw [hE]
      exact q_ireturn dX8_claim_43 rfl rfl (by omega) (by omega) ⟨rfl, sst4, p4⟩
    · have b13 := z_b1 b13
      have fb13 : 0 < mn := z_held b13
      have hE : x_st_claim n id att mn mv xid = (.inr "java/lang/IllegalStateException", mn, mv) := by simp only [x_st_claim, x1, if_pos b13]
      rw [hE]
      refine q_throw kE_X8_153 kR_X8_178 rfl dX8_claim_16 dX8_claim_19 dX8_claim_20 dX8_claim_22 dX8_claim_25 (Nat.le_of_ble_eq_true rfl) (by omega) (by omega) (by omega) ?_
      exact q_xout rfl ⟨rfl, sst.keep (q_same.skip (a := 0) (k := 0)) (Or.inr (Nat.zero_le _)), p0.trans q_same.skip⟩ (by omega) (by omega)
  · have e9 := e_st_slotOfKnown (g := g) (h := h) (d := d - 1) sst xid (by omega)
    rw [x1] at e9
    refine q_invV (mc' := 1) (ms' := 6) (d' := d - 1) (as := [.int (xid)]) dX8_claim_2 kM_X8_slotOfKnown kL_X8_111 kI_X8_slotOfKnown kS_X8_slotOfKnown rfl (kC_X8.1) sst.c0 rfl rfl (Nat.le_of_ble_eq_true rfl) (by omega) (by decide) (by omega) (by omega) (e9) q_kT (q_xT ?_)
    have hE : x_st_claim n id att mn mv xid = (.inr e1, mn, mv) := by simp only [x_st_claim, x1]
    rw [hE]
    exact q_xout rfl ⟨rfl, sst.keep (q_same.skip (a := 0) (k := 0)) (Or.inr (Nat.zero_le _)), p0.trans q_same.skip⟩ (by omega) (by omega)
def x_st_reply (n : Nat) (id : Nat → Int32) (att : Nat → Int32) (mn : Nat) (mv : Nat → Int32) (xid : Int32) : (Int32 ⊕ String) × (Nat) × (Nat → Int32) := (match x_st_slotOfReply n id mn xid with | (.inl v1) => (match x_st_isAllowed n id att mn mv v1 with | (.inl v3) => (if v3 then (if x_dl_isFull mn then (.inr "java/lang/IllegalStateException", mn, mv) else (match x_dl_add mn mv xid with | (y5_mn, y5_mv) => (.inl (nI (y5_mn)), y5_mn, y5_mv))) else (.inr "java/lang/IllegalArgumentException", mn, mv)) | (.inr e3) => (.inr e3, mn, mv)) | (.inr e1) => (.inr e1, mn, mv))
set_option maxRecDepth 100000 in
set_option maxHeartbeats 8000000 in
theorem e_st_reply {g : q_G} {h : q_H} {d : Nat} {a : Nat} {n : Nat} {id : Nat → Int32} {wt : Nat → Int32} {ag : Nat → Int32} {tg : Nat → Int32} {att : Nat → Int32} {ni : Int32} {dy : Int32} {mn : Nat} {mv : Nat → Int32} {en : Int32} {wo : Int32} {br : Int32} (sst : z_S2 h a n id wt ag tg att ni dy mn mv en wo br) (xid : Int32)   (hd : 9 ≤ d) : q_Spec g mX8_reply d 4 24 [.ref (a), .int (xid)] h (q_chg (q_oI (x_st_reply n id att mn mv xid).1) (fun h1 => z_S2 h1 a n id wt ag tg att ni dy ((x_st_reply n id att mn mv xid).2.1) ((x_st_reply n id att mn mv xid).2.2) en wo br ∧ q_same h h1 a 8)) := by
  have hr_st := sst.r0
  have hb_st_n := sst.bn
  have hb_st_mn := sst.bmn
  have ho_st_n := sst.bn
  have ho_st_mn := sst.bmn
  have p0 : q_same h h a 8 := q_same.rfl'
  refine q_enter (by decide +kernel) rfl rfl (Nat.le_of_ble_eq_true rfl) (fun hz => ?_)
  change q_W _ _ _ _ _ _ _ _ _ [.ref (a), .int (xid), q_u] [] _
  refine q_aload_n (by first | assumption | omega | decide) dX8_reply_0 rfl ?_
  refine q_iload_n dX8_reply_1 rfl ?_
  rcases x1 : x_st_slotOfReply n id mn xid with v1 | e1
  · have e9 := e_st_slotOfReply (g := g) (h := h) (d := d - 1) sst xid (by omega)
    rw [x1] at e9
    refine q_invV (mc' := 2) (ms' := 12) (d' := d - 1) (as := [.int (xid)]) dX8_reply_2 kM_X8_slotOfReply kL_X8_182 kI_X8_slotOfReply kS_X8_slotOfReply rfl (kC_X8.1) sst.c0 rfl rfl (Nat.le_of_ble_eq_true rfl) (by omega) (by decide) (by omega) (by omega) (e9) (q_kR ?_) q_xR
    have f1 := z_slotR_lt x1
    change q_W _ _ _ _ _ _ _ _ 5 [.ref (a), .int (xid), q_u] [.int (nI (v1))] _
    refine q_istore_n dX8_reply_5 (by decide) rfl ?_
    change q_W _ _ _ _ _ _ _ _ _ [.ref (a), .int (xid), .int (nI (v1))] [] _
    refine q_aload_n (by first | assumption | omega | decide) dX8_reply_6 rfl ?_
    refine q_iload_n dX8_reply_7 rfl ?_
    rcases x3 : x_st_isAllowed n id att mn mv v1 with v3 | e3
    · have e9 := e_st_isAllowed (g := g) (h := h) (d := d - 1) sst v1 (by omega) (by omega)
      rw [x3] at e9
      refine q_invV (mc' := 1) (ms' := 6) (d' := d - 1) (as := [.int (nI (v1))]) dX8_reply_8 kM_X8_isAllowed kL_X8_185 kI_X8_isAllowed kS_X8_isAllowed rfl (kC_X8.1) sst.c0 rfl rfl (Nat.le_of_ble_eq_true rfl) (by omega) (by decide) (by omega) (by omega) (e9) (q_kR ?_) q_xR
      change q_W _ _ _ _ _ _ _ _ 11 [.ref (a), .int (xid), .int (nI (v1))] [.int (z_b (v3))] _
      refine q_if_ne 24 dX8_reply_11 (by decide) (fun b11 => ?_) (fun b11 => ?_)
      · have b11 := z_b1 b11
        refine q_aload_n (by first | assumption | omega | decide) dX8_reply_24 rfl ?_
        refine q_getf (k := 5) (v := .ref (a + 6)) kC_X8 kL_X8_30 rfl (by decide) dX8_reply_25 sst.c0 rfl ?_
        refine q_invV (mc' := 0) (ms' := 0) (d' := d - 1) (as := []) dX8_reply_28 kM_X2_isFull kL_X8_190 kI_X2_isFull kS_X2_isFull rfl (kC_X2.1) sst.c6 rfl rfl (Nat.le_of_ble_eq_true rfl) (by omega) (by decide) (by omega) (by omega) (e_dl_isFull (d := d - 1) (sst.dl) (by omega)) (q_kR ?_) q_xR
        change q_W _ _ _ _ _ _ _ _ 31 [.ref (a), .int (xid), .int (nI (v1))] [.int (z_b (x_dl_isFull mn))] _
        refine q_if_eq 44 dX8_reply_31 (by decide) (fun b31 => ?_) (fun b31 => ?_)
        · have b31 := z_b0n b31
          have fb31 : mn < 12 := z_nfull b31
          refine q_aload_n (by first | assumption | omega | decide) dX8_reply_44 rfl ?_
          refine q_getf (k := 5) (v := .ref (a + 6)) kC_X8 kL_X8_30 rfl (by decide) dX8_reply_45 sst.c0 rfl ?_
          refine q_iload_n dX8_reply_48 rfl ?_
          rcases x5 : x_dl_add mn mv xid with ⟨y5_mn, y5_mv⟩
          have e9 := e_dl_add (g := g) (h := h) (d := d - 1) (sst.dl) xid (by omega)
          rw [x5] at e9
          refine q_invV (mc' := 0) (ms' := 0) (d' := d - 1) (as := [.int (xid)]) dX8_reply_49 kM_X2_add kL_X8_180 kI_X2_add kS_X2_add rfl (kC_X2.1) sst.c6 rfl rfl (Nat.le_of_ble_eq_true rfl) (by omega) (by decide) (by omega) (by omega) (e9) (q_kC (fun h6 hB => ?_)) q_xC
          obtain ⟨t6_0, pp6⟩ := hB
          have sst6 := sst.ofdl t6_0 pp6
          have p6 := p0.trans (pp6.wide (by omega) (by omega))
          have hb_st_n := sst6.bn
          have hb_st_mn := sst6.bmn
          change q_W _ _ _ _ _ _ _ _ 52 [.ref (a), .int (xid), .int (nI (v1))] [] _
          refine q_aload_n (by first | assumption | omega | decide) dX8_reply_52 rfl ?_
          refine q_getf (k := 5) (v := .ref (a + 6)) kC_X8 kL_X8_30 rfl (by decide) dX8_reply_53 sst6.c0 rfl ?_
          refine q_getf (k := 1) (v := .int (nI (y5_mn))) kC_X2 kL_X8_129 rfl (by decide) dX8_reply_56 sst6.c6 rfl ?_
          have hE : x_st_reply n id att mn mv xid = (.inl (nI (y5_mn)), y5_mn, y5_mv) := by simp only [x_st_reply, x1, x3, if_pos b11, if_neg b31, x5]
          rw [hE]
          exact q_ireturn dX8_reply_59 rfl rfl (by omega) (by omega) ⟨rfl, sst6, p6⟩
        · have b31 := z_b1 b31
          have fb31 : 12 ≤ mn := z_full b31
          have hE : x_st_reply n id att mn mv xid = (.inr "java/lang/IllegalStateException", mn, mv) := by simp only [x_st_reply, x1, x3, if_pos b11, if_pos b31]
          rw [hE]
          refine q_throw kE_X8_153 kR_X8_193 rfl dX8_reply_34 dX8_reply_37 dX8_reply_38 dX8_reply_40 dX8_reply_43 (Nat.le_of_ble_eq_true rfl) (by omega) (by omega) (by omega) ?_
          exact q_xout rfl ⟨rfl, sst.keep (q_same.skip (a := 0) (k := 0)) (Or.inr (Nat.zero_le _)), p0.trans q_same.skip⟩ (by omega) (by omega)
      · have b11 := z_b0n b11
        have hE : x_st_reply n id att mn mv xid = (.inr "java/lang/IllegalArgumentException", mn, mv) := by simp only [x_st_reply, x1, x3, if_neg b11]
        rw [hE]
        refine q_throw kE_X8_167 kR_X8_188 rfl dX8_reply_14 dX8_reply_17 dX8_reply_18 dX8_reply_20 dX8_reply_23 (Nat.le_of_ble_eq_true rfl) (by omega) (by omega) (by omega) ?_
        exact q_xout rfl ⟨rfl, sst.keep (q_same.skip (a := 0) (k := 0)) (Or.inr (Nat.zero_le _)), p0.trans q_same.skip⟩ (by omega) (by omega)
    · have e9 := e_st_isAllowed (g := g) (h := h) (d := d - 1) sst v1 (by omega) (by omega)
      rw [x3] at e9
      refine q_invV (mc' := 1) (ms' := 6) (d' := d - 1) (as := [.int (nI (v1))]) dX8_reply_8 kM_X8_isAllowed kL_X8_185 kI_X8_isAllowed kS_X8_isAllowed rfl (kC_X8.1) sst.c0 rfl rfl (Nat.le_of_ble_eq_true rfl) (by omega) (by decide) (by omega) (by omega) (e9) q_kT (q_xT ?_)
      have hE : x_st_reply n id att mn mv xid = (.inr e3, mn, mv) := by simp only [x_st_reply, x1, x3]
      rw [hE]
      exact q_xout rfl ⟨rfl, sst.keep (q_same.skip (a := 0) (k := 0)) (Or.inr (Nat.zero_le _)), p0.trans q_same.skip⟩ (by omega) (by omega)
  · have e9 := e_st_slotOfReply (g := g) (h := h) (d := d - 1) sst xid (by omega)
    rw [x1] at e9
    refine q_invV (mc' := 2) (ms' := 12) (d' := d - 1) (as := [.int (xid)]) dX8_reply_2 kM_X8_slotOfReply kL_X8_182 kI_X8_slotOfReply kS_X8_slotOfReply rfl (kC_X8.1) sst.c0 rfl rfl (Nat.le_of_ble_eq_true rfl) (by omega) (by decide) (by omega) (by omega) (e9) q_kT (q_xT ?_)
    have hE : x_st_reply n id att mn mv xid = (.inr e1, mn, mv) := by simp only [x_st_reply, x1]
    rw [hE]
    exact q_xout rfl ⟨rfl, sst.keep (q_same.skip (a := 0) (k := 0)) (Or.inr (Nat.zero_le _)), p0.trans q_same.skip⟩ (by omega) (by omega)
def x_st_letPass (n : Nat) (wt : Nat → Int32) (ag : Nat → Int32) (tg : Nat → Int32) (att : Nat → Int32) (dy : Int32) (ds : Int32) : (Int32 ⊕ String) × (Nat → Int32) × (Nat → Int32) × (Int32) := (if (ds) < (1) then (.inr "java/lang/IllegalArgumentException", ag, att, dy) else (if (ds) ≤ (90) then (match x_st_age n wt ag tg att dy ds with | (v1, y1_ag, y1_att, y1_dy) => (.inl v1, y1_ag, y1_att, y1_dy)) else (.inr "java/lang/IllegalArgumentException", ag, att, dy)))
set_option maxRecDepth 100000 in
set_option maxHeartbeats 8000000 in
theorem e_st_letPass {g : q_G} {h : q_H} {d : Nat} {a : Nat} {n : Nat} {id : Nat → Int32} {wt : Nat → Int32} {ag : Nat → Int32} {tg : Nat → Int32} {att : Nat → Int32} {ni : Int32} {dy : Int32} {mn : Nat} {mv : Nat → Int32} {en : Int32} {wo : Int32} {br : Int32} (sst : z_S2 h a n id wt ag tg att ni dy mn mv en wo br) (ds : Int32)   (hd : 7 ≤ d) : q_Spec g mX8_letPass d 1 6 [.ref (a), .int (ds)] h (q_chg (q_oI (x_st_letPass n wt ag tg att dy ds).1) (fun h1 => z_S2 h1 a n id wt ((x_st_letPass n wt ag tg att dy ds).2.1) tg ((x_st_letPass n wt ag tg att dy ds).2.2.1) ni ((x_st_letPass n wt ag tg att dy ds).2.2.2) mn mv en wo br ∧ q_same h h1 a 8)) := by
  have hr_st := sst.r0
  have hb_st_n := sst.bn
  have hb_st_mn := sst.bmn
  have ho_st_n := sst.bn
  have ho_st_mn := sst.bmn
  have p0 : q_same h h a 8 := q_same.rfl'
  refine q_enter (by decide +kernel) rfl rfl (Nat.le_of_ble_eq_true rfl) (fun hz => ?_)
  change q_W _ _ _ _ _ _ _ _ _ [.ref (a), .int (ds)] [] _
  refine q_iload_n dX8_letPass_0 rfl ?_
  refine q_iconst (v := 1) dX8_letPass_1 rfl ?_
  refine q_icmp_lt 11 dX8_letPass_2 (by decide) (fun b2 => ?_) (fun b2 => ?_)
  · have hE : x_st_letPass n wt ag tg att dy ds = (.inr "java/lang/IllegalArgumentException", ag, att, dy) := by simp only [x_st_letPass, if_pos b2]
    rw [hE]
    refine q_throw kE_X8_167 kR_X8_195 rfl dX8_letPass_11 dX8_letPass_14 dX8_letPass_15 dX8_letPass_17 dX8_letPass_20 (Nat.le_of_ble_eq_true rfl) (by omega) (by omega) (by omega) ?_
    exact q_xout rfl ⟨rfl, sst.keep (q_same.skip (a := 0) (k := 0)) (Or.inr (Nat.zero_le _)), p0.trans q_same.skip⟩ (by omega) (by omega)
  · refine q_iload_n dX8_letPass_5 rfl ?_
    refine q_bipush (v := 90) dX8_letPass_6 rfl ?_
    refine q_icmp_le 21 dX8_letPass_8 (by decide) (fun b8 => ?_) (fun b8 => ?_)
    · refine q_aload_n (by first | assumption | omega | decide) dX8_letPass_21 rfl ?_
      refine q_iload_n dX8_letPass_22 rfl ?_
      rcases x1 : x_st_age n wt ag tg att dy ds with ⟨v1, y1_ag, y1_att, y1_dy⟩
      have e9 := e_st_age (g := g) (h := h) (d := d - 1) sst ds (by omega)
      rw [x1] at e9
      refine q_invV (mc' := 0) (ms' := 0) (d' := d - 1) (as := [.int (ds)]) dX8_letPass_23 kM_X8_age kL_X8_197 kI_X8_age kS_X8_age rfl (kC_X8.1) sst.c0 rfl rfl (Nat.le_of_ble_eq_true rfl) (by omega) (by decide) (by omega) (by omega) (e9) (q_kC (fun h2 hB => ?_)) q_xC
      obtain ⟨t2_0, pp2⟩ := hB
      have sst2 := t2_0
      have p2 := p0.trans (pp2.wide (by omega) (by omega))
      have hb_st_n := sst2.bn
      have hb_st_mn := sst2.bmn
      change q_W _ _ _ _ _ _ _ _ 26 [.ref (a), .int (ds)] [.int (v1)] _
      have hE : x_st_letPass n wt ag tg att dy ds = (.inl v1, y1_ag, y1_att, y1_dy) := by simp only [x_st_letPass, if_neg b2, if_pos b8, x1]
      rw [hE]
      exact q_ireturn dX8_letPass_26 rfl rfl (by omega) (by omega) ⟨rfl, sst2, p2⟩
    · have hE : x_st_letPass n wt ag tg att dy ds = (.inr "java/lang/IllegalArgumentException", ag, att, dy) := by simp only [x_st_letPass, if_neg b2, if_neg b8]
      rw [hE]
      refine q_throw kE_X8_167 kR_X8_195 rfl dX8_letPass_11 dX8_letPass_14 dX8_letPass_15 dX8_letPass_17 dX8_letPass_20 (Nat.le_of_ble_eq_true rfl) (by omega) (by omega) (by omega) ?_
      exact q_xout rfl ⟨rfl, sst.keep (q_same.skip (a := 0) (k := 0)) (Or.inr (Nat.zero_le _)), p0.trans q_same.skip⟩ (by omega) (by omega)
