theorem z_Sb.r0 {h : q_H} {b cn v : Nat} {f : Nat → Int32} (s : z_Sb h b cn f v) : q_R0 ≤ b := by
  obtain ⟨ml, cap, bs, s1, -⟩ := s
  exact s1.r0
theorem z_Sb.bcn {h : q_H} {b cn v : Nat} {f : Nat → Int32} (s : z_Sb h b cn f v) : cn ≤ 286 := by
  obtain ⟨ml, cap, bs, s1, -⟩ := s
  exact s1.bcn
theorem z_Sb.lat {h : q_H} {b cn v : Nat} {f : Nat → Int32} (s : z_Sb h b cn f v) {j : Nat} (hj : j < cn) : z_lat (f j) := by
  obtain ⟨ml, cap, bs, s1, s2, hbv, h16, hcc, hnar, hf⟩ := s
  exact (hf j hj).1
theorem z_Sb.cell {h : q_H} {b cn v : Nat} {f : Nat → Int32} (s : z_Sb h b cn f v) : ∃ fs, h.2 b = some (.inr (1, fs)) := by
  obtain ⟨ml, cap, bs, s1, -⟩ := s
  exact ⟨_, s1.c0⟩
theorem z_Sb.keep {h h1 : q_H} {b cn v b1 k1 : Nat} {f : Nat → Int32} (s : z_Sb h b cn f v) (q : q_same h h1 b1 k1) (hx : (b + 1 ≤ b1 ∨ b1 + k1 ≤ b) ∧ (v + 1 ≤ b1 ∨ b1 + k1 ≤ v)) : z_Sb h1 b cn f v := by
  obtain ⟨ml, cap, bs, s1, s2, r⟩ := s
  exact ⟨ml, cap, bs, s1.keep q hx.1, s2.keep q hx.2, r⟩
def x_J0_coder  : Nat := 0
set_option maxRecDepth 100000 in
set_option maxHeartbeats 8000000 in
theorem e_J0_coder {g : q_G} {h : q_H} {d : Nat}   (k : Nat) (hk : k < 11)  (hd : 0 ≤ d) : q_Spec g mJ0_coder_7d493 d 0 0 [.ref (14 + k)] h (q_ret ((some (.int (nI x_J0_coder)))) h) := by
  refine q_enter (by decide +kernel) rfl rfl (Nat.le_of_ble_eq_true rfl) (fun hz => ?_)
  change q_W _ _ _ _ _ _ _ _ _ [.ref (14 + k)] [] _
  refine q_getstatic (v := .int (1)) (by simp [q_zs]) kL_J0_38 rfl dJ0_coder_7d493_0 ?_
  change q_W _ _ _ _ _ _ _ _ 3 [.ref (14 + k)] [.int (1)] _
  refine q_if_eq 13 dJ0_coder_7d493_3 (by decide) (fun b3 => ?_) (fun b3 => ?_)
  · exact absurd b3 (by decide)
  · refine q_aload_nK (by omega) dJ0_coder_7d493_6 rfl ?_
    refine q_getold (i := 14 + k) (v := .int (0)) (by unfold q_R0; omega) kL_J0_15 rfl (q_coderF (k := k) (by omega)) dJ0_coder_7d493_7 ?_
    change q_W _ _ _ _ _ _ _ _ 10 [.ref (14 + k)] [.int (0)] _
    refine q_goto 14 dJ0_coder_7d493_10 (by decide) ?_
    have hE : x_J0_coder  = 0 := by simp only [x_J0_coder]
    rw [hE]
    exact q_ireturn dJ0_coder_7d493_14 rfl rfl (by omega) (by omega) ⟨rfl, rfl⟩
def x_J0_isLatin1  : Bool := true
set_option maxRecDepth 100000 in
set_option maxHeartbeats 8000000 in
theorem e_J0_isLatin1 {g : q_G} {h : q_H} {d : Nat}   (k : Nat) (hk : k < 11)  (hd : 0 ≤ d) : q_Spec g mJ0_isLatin1_aae02 d 0 0 [.ref (14 + k)] h (q_ret ((some (.int (z_b x_J0_isLatin1)))) h) := by
  refine q_enter (by decide +kernel) rfl rfl (Nat.le_of_ble_eq_true rfl) (fun hz => ?_)
  change q_W _ _ _ _ _ _ _ _ _ [.ref (14 + k)] [] _
  refine q_getstatic (v := .int (1)) (by simp [q_zs]) kL_J0_38 rfl dJ0_isLatin1_aae02_0 ?_
  change q_W _ _ _ _ _ _ _ _ 3 [.ref (14 + k)] [.int (1)] _
  refine q_if_eq 17 dJ0_isLatin1_aae02_3 (by decide) (fun b3 => ?_) (fun b3 => ?_)
  · exact absurd b3 (by decide)
  · refine q_aload_nK (by omega) dJ0_isLatin1_aae02_6 rfl ?_
    refine q_getold (i := 14 + k) (v := .int (0)) (by unfold q_R0; omega) kL_J0_15 rfl (q_coderF (k := k) (by omega)) dJ0_isLatin1_aae02_7 ?_
    change q_W _ _ _ _ _ _ _ _ 10 [.ref (14 + k)] [.int (0)] _
    refine q_if_ne 17 dJ0_isLatin1_aae02_10 (by decide) (fun b10 => ?_) (fun b10 => ?_)
    · exact absurd (by decide) b10
    · refine q_iconst (v := 1) dJ0_isLatin1_aae02_13 rfl ?_
      refine q_goto 18 dJ0_isLatin1_aae02_14 (by decide) ?_
      have hE : x_J0_isLatin1  = true := by simp only [x_J0_isLatin1]
      rw [hE]
      exact q_ireturn dJ0_isLatin1_aae02_18 rfl rfl (by omega) (by omega) ⟨rfl, rfl⟩
def x_J0_length (k : Nat) : Nat := (q_pat k).length
set_option maxRecDepth 100000 in
set_option maxHeartbeats 8000000 in
theorem e_J0_length {g : q_G} {h : q_H} {d : Nat}   (k : Nat) (hk : k < 11)  (hd : 1 ≤ d) : q_Spec g mJ0_length_8abf5 d 0 0 [.ref (14 + k)] h (q_ret ((some (.int (nI (x_J0_length k))))) h) := by
  refine q_enter (by decide +kernel) rfl rfl (Nat.le_of_ble_eq_true rfl) (fun hz => ?_)
  change q_W _ _ _ _ _ _ _ _ _ [.ref (14 + k)] [] _
  refine q_aload_nK (by omega) dJ0_length_8abf5_0 rfl ?_
  refine q_getold (i := 14 + k) (v := .ref (25 + k)) (by unfold q_R0; omega) kL_J0_9 rfl (q_valueF (k := k) (by omega)) dJ0_length_8abf5_1 ?_
  change q_W _ _ _ _ _ _ _ _ 4 [.ref (14 + k)] [.ref (25 + k)] _
  refine q_tlenP (k := k) (by omega) dJ0_length_8abf5_4 ?_
  change q_W _ _ _ _ _ _ _ _ 5 [.ref (14 + k)] [.int (nI ((q_pat k).length))] _
  refine q_aload_nK (by omega) dJ0_length_8abf5_5 rfl ?_
  refine q_invVO (C := RJ0) (i := 14 + k) (mc' := 0) (ms' := 0) (d' := d - 1) (as := []) dJ0_length_8abf5_6 kM_J0_coder_7d493 kL_J0_335 kI_J0_coder_7d493 kS_J0_coder_7d493 rfl (by unfold q_R0; omega) (q_patO (by omega)) rfl rfl (Nat.le_of_ble_eq_true rfl) (by omega) (by decide) (by omega) (by omega) (e_J0_coder (d := d - 1) k (by omega) (by omega)) (q_kR ?_) q_xR
  change q_W _ _ _ _ _ _ _ _ 9 [.ref (14 + k)] [.int (0), .int (nI ((q_pat k).length))] _
  refine q_ishr0 dJ0_length_8abf5_9 ?_
  have hE : x_J0_length k = (q_pat k).length := by simp only [x_J0_length]
  rw [hE]
  exact q_ireturn dJ0_length_8abf5_10 rfl rfl (by omega) (by omega) ⟨rfl, rfl⟩
def x_J1_charAt (k : Nat) (j : Nat) : Int32 := ((((q_pat k).getD j 0) &&& (255 : Int32)).toUInt32 % 65536).toInt32
set_option maxRecDepth 100000 in
set_option maxHeartbeats 8000000 in
theorem e_J1_charAt {g : q_G} {h : q_H} {d : Nat}   (k : Nat) (j : Nat) (hk : k < 11) (hpl : (q_pat k).length ≤ 10) (hj : j < (q_pat k).length)  (hd : 2 ≤ d) : q_Spec g mJ1_charAt_3b067 d 0 0 [.ref (25 + k), .int (nI (j))] h (q_ret ((some (.int (x_J1_charAt k j)))) h) := by
  refine q_enter (by decide +kernel) rfl rfl (Nat.le_of_ble_eq_true rfl) (fun hz => ?_)
  change q_W _ _ _ _ _ _ _ _ _ [.ref (25 + k), .int (nI (j))] [] _
  refine q_iload_n dJ1_charAt_3b067_0 rfl ?_
  refine q_aload_nK (by omega) dJ1_charAt_3b067_1 rfl ?_
  refine q_tlenP (k := k) (by omega) dJ1_charAt_3b067_2 ?_
  change q_W _ _ _ _ _ _ _ _ 3 [.ref (25 + k), .int (nI (j))] [.int (nI ((q_pat k).length)), .int (nI (j))] _
  refine q_invS (mc' := 0) (ms' := 0) (d' := d - 1) (as := [.int (nI (j)), .int (nI ((q_pat k).length))]) dJ1_charAt_3b067_3 kM_J0_checkIndex_df160 kL_J1_9 kT_J0_checkIndex_df160 rfl rfl rfl (Nat.le_of_ble_eq_true rfl) (by omega) (by decide) (by omega) (by omega) (e_chk0 (d := d - 1) (i := j) (n := (q_pat k).length) (by omega) (by omega) (by omega)) (q_kR ?_) q_xR
  change q_W _ _ _ _ _ _ _ _ 6 [.ref (25 + k), .int (nI (j))] [] _
  refine q_aload_nK (by omega) dJ1_charAt_3b067_6 rfl ?_
  refine q_iload_n dJ1_charAt_3b067_7 rfl ?_
  refine q_taldP (k := k) (j := j) (by omega) dJ1_charAt_3b067_8 (by omega) ?_
  change q_W _ _ _ _ _ _ _ _ 9 [.ref (25 + k), .int (nI (j))] [.int ((q_pat k).getD j 0)] _
  refine q_sipush (v := 255) dJ1_charAt_3b067_9 rfl ?_
  refine q_iand dJ1_charAt_3b067_12 ?_
  refine q_i2c dJ1_charAt_3b067_13 rfl ?_
  have hE : x_J1_charAt k j = ((((q_pat k).getD j 0) &&& (255 : Int32)).toUInt32 % 65536).toInt32 := by simp only [x_J1_charAt]
  rw [hE]
  exact q_ireturn dJ1_charAt_3b067_14 rfl (pk_nc _) (by omega) (by omega) ⟨rfl, rfl⟩
def x_J0_charAt (k : Nat) (j : Nat) : Int32 := x_J1_charAt k j
set_option maxRecDepth 100000 in
set_option maxHeartbeats 8000000 in
theorem e_J0_charAt {g : q_G} {h : q_H} {d : Nat}   (k : Nat) (j : Nat) (hk : k < 11) (hpl : (q_pat k).length ≤ 10) (hj : j < (q_pat k).length)  (hd : 3 ≤ d) : q_Spec g mJ0_charAt_5068e d 0 0 [.ref (14 + k), .int (nI (j))] h (q_ret ((some (.int (x_J0_charAt k j)))) h) := by
  refine q_enter (by decide +kernel) rfl rfl (Nat.le_of_ble_eq_true rfl) (fun hz => ?_)
  change q_W _ _ _ _ _ _ _ _ _ [.ref (14 + k), .int (nI (j))] [] _
  refine q_aload_nK (by omega) dJ0_charAt_5068e_0 rfl ?_
  refine q_invVO (C := RJ0) (i := 14 + k) (mc' := 0) (ms' := 0) (d' := d - 1) (as := []) dJ0_charAt_5068e_1 kM_J0_isLatin1_aae02 kL_J0_492 kI_J0_isLatin1_aae02 kS_J0_isLatin1_aae02 rfl (by unfold q_R0; omega) (q_patO (by omega)) rfl rfl (Nat.le_of_ble_eq_true rfl) (by omega) (by decide) (by omega) (by omega) (e_J0_isLatin1 (d := d - 1) k (by omega) (by omega)) (q_kR ?_) q_xR
  change q_W _ _ _ _ _ _ _ _ 4 [.ref (14 + k), .int (nI (j))] [.int (1)] _
  refine q_if_eq 16 dJ0_charAt_5068e_4 (by decide) (fun b4 => ?_) (fun b4 => ?_)
  · exact absurd b4 (by decide)
  · refine q_aload_nK (by omega) dJ0_charAt_5068e_7 rfl ?_
    refine q_getold (i := 14 + k) (v := .ref (25 + k)) (by unfold q_R0; omega) kL_J0_9 rfl (q_valueF (k := k) (by omega)) dJ0_charAt_5068e_8 ?_
    change q_W _ _ _ _ _ _ _ _ 11 [.ref (14 + k), .int (nI (j))] [.ref (25 + k)] _
    refine q_iload_n dJ0_charAt_5068e_11 rfl ?_
    refine q_invS (mc' := 0) (ms' := 0) (d' := d - 1) (as := [.ref (25 + k), .int (nI (j))]) dJ0_charAt_5068e_12 kM_J1_charAt_3b067 kL_J0_495 kT_J1_charAt_3b067 rfl rfl rfl (Nat.le_of_ble_eq_true rfl) (by omega) (by decide) (by omega) (by omega) (e_J1_charAt (d := d - 1) k j (by omega) (z_patlen _) (by omega) (by omega)) (q_kR ?_) q_xR
    change q_W _ _ _ _ _ _ _ _ 15 [.ref (14 + k), .int (nI (j))] [.int (x_J1_charAt k j)] _
    have hE : x_J0_charAt k j = x_J1_charAt k j := by simp only [x_J0_charAt]
    rw [hE]
    exact q_ireturn dJ0_charAt_5068e_15 rfl (by unfold x_J1_charAt; exact pk_nc _) (by omega) (by omega) ⟨rfl, rfl⟩
def z_Pr (h : q_H) (b : Nat) (pc : Nat) (pp : Nat) (po : Int32) (vb : Nat → Int32) (oa : Nat → Int32) (ob : Nat → Int32) : Prop :=
  q_R0 ≤ b ∧
  b + 4 ≤ h.1 ∧
  pc ≤ 16 ∧
  pp ≤ 60 ∧
  h.2 (b) = some (.inr (9, [.ref (b + 1), .ref (b + 2), .ref (b + 3), .int (nI (pc)), .int (nI (pp)), .int (po)])) ∧
  h.2 (b + 1) = some (.inl (0, 16, .inl (vb))) ∧
  h.2 (b + 2) = some (.inl (0, 16, .inl (oa))) ∧
  h.2 (b + 3) = some (.inl (0, 16, .inl (ob)))
theorem z_Pr.r0 {h : q_H} {b : Nat} {pc : Nat} {pp : Nat} {po : Int32} {vb : Nat → Int32} {oa : Nat → Int32} {ob : Nat → Int32} (s : z_Pr h b pc pp po vb oa ob) : q_R0 ≤ b := s.1
theorem z_Pr.s0 {h : q_H} {b : Nat} {pc : Nat} {pp : Nat} {po : Int32} {vb : Nat → Int32} {oa : Nat → Int32} {ob : Nat → Int32} (s : z_Pr h b pc pp po vb oa ob) : b + 4 ≤ h.1 := s.2.1
theorem z_Pr.bpc {h : q_H} {b : Nat} {pc : Nat} {pp : Nat} {po : Int32} {vb : Nat → Int32} {oa : Nat → Int32} {ob : Nat → Int32} (s : z_Pr h b pc pp po vb oa ob) : pc ≤ 16 := s.2.2.1
theorem z_Pr.bpp {h : q_H} {b : Nat} {pc : Nat} {pp : Nat} {po : Int32} {vb : Nat → Int32} {oa : Nat → Int32} {ob : Nat → Int32} (s : z_Pr h b pc pp po vb oa ob) : pp ≤ 60 := s.2.2.2.1
theorem z_Pr.c0 {h : q_H} {b : Nat} {pc : Nat} {pp : Nat} {po : Int32} {vb : Nat → Int32} {oa : Nat → Int32} {ob : Nat → Int32} (s : z_Pr h b pc pp po vb oa ob) : h.2 (b) = some (.inr (9, [.ref (b + 1), .ref (b + 2), .ref (b + 3), .int (nI (pc)), .int (nI (pp)), .int (po)])) := s.2.2.2.2.1
theorem z_Pr.c1 {h : q_H} {b : Nat} {pc : Nat} {pp : Nat} {po : Int32} {vb : Nat → Int32} {oa : Nat → Int32} {ob : Nat → Int32} (s : z_Pr h b pc pp po vb oa ob) : h.2 (b + 1) = some (.inl (0, 16, .inl (vb))) := s.2.2.2.2.2.1
theorem z_Pr.c2 {h : q_H} {b : Nat} {pc : Nat} {pp : Nat} {po : Int32} {vb : Nat → Int32} {oa : Nat → Int32} {ob : Nat → Int32} (s : z_Pr h b pc pp po vb oa ob) : h.2 (b + 2) = some (.inl (0, 16, .inl (oa))) := s.2.2.2.2.2.2.1
theorem z_Pr.c3 {h : q_H} {b : Nat} {pc : Nat} {pp : Nat} {po : Int32} {vb : Nat → Int32} {oa : Nat → Int32} {ob : Nat → Int32} (s : z_Pr h b pc pp po vb oa ob) : h.2 (b + 3) = some (.inl (0, 16, .inl (ob))) := s.2.2.2.2.2.2.2
theorem z_Pr.keep {h1 : q_H} {b1 k1 : Nat} {h : q_H} {b : Nat} {pc : Nat} {pp : Nat} {po : Int32} {vb : Nat → Int32} {oa : Nat → Int32} {ob : Nat → Int32} (s : z_Pr h b pc pp po vb oa ob) (q : q_same h h1 b1 k1) (hx : b + 4 ≤ b1 ∨ b1 + k1 ≤ b) : z_Pr h1 b pc pp po vb oa ob := by
  obtain ⟨w0, w1, w2, w3, w4, w5, w6, w7⟩ := s
  exact ⟨w0, Nat.le_trans w1 q.1, w2, w3, (q.2 _ (by omega) (by omega)).trans w4, (q.2 _ (by omega) (by omega)).trans w5, (q.2 _ (by omega) (by omega)).trans w6, (q.2 _ (by omega) (by omega)).trans w7⟩
theorem z_Pr.put0 {h : q_H} {b : Nat} {pc : Nat} {pp : Nat} {po : Int32} {vb : Nat → Int32} {oa : Nat → Int32} {ob : Nat → Int32} (s : z_Pr h b pc pp po vb oa ob) {pc' : Nat} {pp' : Nat} {po' : Int32} (hbpc : pc' ≤ 16) (hbpp : pp' ≤ 60)  : z_Pr (q_set h (b) (.inr (9, [.ref (b + 1), .ref (b + 2), .ref (b + 3), .int (nI (pc')), .int (nI (pp')), .int (po')]))) b pc' pp' po' vb oa ob := by
  obtain ⟨w0, w1, w2, w3, w4, w5, w6, w7⟩ := s
  exact ⟨w0, w1, hbpc, hbpp, q_set_eq, (q_set_ne (by omega)).trans w5, (q_set_ne (by omega)).trans w6, (q_set_ne (by omega)).trans w7⟩
theorem z_Pr.put1 {h : q_H} {b : Nat} {pc : Nat} {pp : Nat} {po : Int32} {vb : Nat → Int32} {oa : Nat → Int32} {ob : Nat → Int32} (s : z_Pr h b pc pp po vb oa ob) {vb' : Nat → Int32}   : z_Pr (q_set h (b + 1) (.inl (0, 16, .inl (vb')))) b pc pp po vb' oa ob := by
  obtain ⟨w0, w1, w2, w3, w4, w5, w6, w7⟩ := s
  exact ⟨w0, w1, w2, w3, (q_set_ne (by omega)).trans w4, q_set_eq, (q_set_ne (by omega)).trans w6, (q_set_ne (by omega)).trans w7⟩
theorem z_Pr.put2 {h : q_H} {b : Nat} {pc : Nat} {pp : Nat} {po : Int32} {vb : Nat → Int32} {oa : Nat → Int32} {ob : Nat → Int32} (s : z_Pr h b pc pp po vb oa ob) {oa' : Nat → Int32}   : z_Pr (q_set h (b + 2) (.inl (0, 16, .inl (oa')))) b pc pp po vb oa' ob := by
  obtain ⟨w0, w1, w2, w3, w4, w5, w6, w7⟩ := s
  exact ⟨w0, w1, w2, w3, (q_set_ne (by omega)).trans w4, (q_set_ne (by omega)).trans w5, q_set_eq, (q_set_ne (by omega)).trans w7⟩
theorem z_Pr.put3 {h : q_H} {b : Nat} {pc : Nat} {pp : Nat} {po : Int32} {vb : Nat → Int32} {oa : Nat → Int32} {ob : Nat → Int32} (s : z_Pr h b pc pp po vb oa ob) {ob' : Nat → Int32}   : z_Pr (q_set h (b + 3) (.inl (0, 16, .inl (ob')))) b pc pp po vb oa ob' := by
  obtain ⟨w0, w1, w2, w3, w4, w5, w6, w7⟩ := s
  exact ⟨w0, w1, w2, w3, (q_set_ne (by omega)).trans w4, (q_set_ne (by omega)).trans w5, (q_set_ne (by omega)).trans w6, q_set_eq⟩
def x_pr_isDigit (xc : Int32) : Bool := (if (xc) < (48) then false else (if (57 : Int32) < (xc) then false else true))
set_option maxRecDepth 100000 in
set_option maxHeartbeats 8000000 in
theorem e_pr_isDigit {g : q_G} {h : q_H} {d : Nat}   (xc : Int32)   (hd : 0 ≤ d) : q_Spec g mX7_isDigit d 0 0 [.int (xc)] h (q_ret ((some (.int (z_b (x_pr_isDigit xc))))) h) := by
  refine q_enter (by decide +kernel) rfl rfl (Nat.le_of_ble_eq_true rfl) (fun hz => ?_)
  change q_W _ _ _ _ _ _ _ _ _ [.int (xc)] [] _
  refine q_iload_n dX7_isDigit_0 rfl ?_
  refine q_bipush (v := 48) dX7_isDigit_1 rfl ?_
  refine q_icmp_lt 16 dX7_isDigit_3 (by decide) (fun b3 => ?_) (fun b3 => ?_)
  · refine q_iconst (v := 0) dX7_isDigit_16 rfl ?_
    have hE : x_pr_isDigit xc = false := by simp only [x_pr_isDigit, if_pos b3]
    rw [hE]
    exact q_ireturn dX7_isDigit_17 rfl rfl (by omega) (by omega) ⟨rfl, rfl⟩
  · refine q_iload_n dX7_isDigit_6 rfl ?_
    refine q_bipush (v := 57) dX7_isDigit_7 rfl ?_
    refine q_icmp_gt 16 dX7_isDigit_9 (by decide) (fun b9 => ?_) (fun b9 => ?_)
    · refine q_iconst (v := 0) dX7_isDigit_16 rfl ?_
      have hE : x_pr_isDigit xc = false := by simp only [x_pr_isDigit, if_neg b3, if_pos b9]
      rw [hE]
      exact q_ireturn dX7_isDigit_17 rfl rfl (by omega) (by omega) ⟨rfl, rfl⟩
    · refine q_iconst (v := 1) dX7_isDigit_12 rfl ?_
      refine q_goto 17 dX7_isDigit_13 (by decide) ?_
      have hE : x_pr_isDigit xc = true := by simp only [x_pr_isDigit, if_neg b3, if_neg b9]
      rw [hE]
      exact q_ireturn dX7_isDigit_17 rfl rfl (by omega) (by omega) ⟨rfl, rfl⟩
def x_pr_readCharacter (pp : Nat) (cn : Nat) (f : Nat → Int32) (xw : Int32) : (Bool) × (Nat) := (if cn ≤ pp then (false, pp) else (if (f pp) = (xw) then (true, pp + 1) else (false, pp)))
set_option maxRecDepth 100000 in
set_option maxHeartbeats 8000000 in
theorem e_pr_readCharacter {g : q_G} {h : q_H} {d : Nat} {pc : Nat} {pp : Nat} {po : Int32} {vb : Nat → Int32} {oa : Nat → Int32} {ob : Nat → Int32} (spr : z_Pr h 207 pc pp po vb oa ob) {cn : Nat} {f : Nat → Int32} {v : Nat} (stx : z_Sb h 211 cn f v)  (xw : Int32) (hcn : cn ≤ 60) (hv : v = 212 ∨ 225 ≤ v)  (hd : 4 ≤ d) : q_Spec g mX7_readCharacter d 0 0 [.ref (207), .ref (211), .int (xw)] h (q_chg (.inl (some (.int (z_b (x_pr_readCharacter pp cn f xw).1)))) (fun h1 => z_Pr h1 207 pc ((x_pr_readCharacter pp cn f xw).2) po vb oa ob ∧ z_Sb h1 211 cn f v ∧ q_same h h1 207 4)) := by
  have hb_pr_pc := spr.bpc
  have hb_pr_pp := spr.bpp
  have hb_tx_cn := stx.bcn
  have ho_pr_pc := spr.bpc
  have ho_pr_pp := spr.bpp
  have ho_tx_cn := stx.bcn
  have p0 : q_same h h 207 4 := q_same.rfl'
  refine q_enter (by decide +kernel) rfl rfl (Nat.le_of_ble_eq_true rfl) (fun hz => ?_)
  change q_W _ _ _ _ _ _ _ _ _ [.ref (207), .ref (211), .int (xw)] [] _
  refine q_aload_n (by first | assumption | omega | decide) dX7_readCharacter_0 rfl ?_
  refine q_getf (k := 4) (v := .int (nI (pp))) kC_X7 kL_X7_25 rfl (by decide) dX7_readCharacter_1 spr.c0 rfl ?_
  refine q_aload_n (by first | assumption | omega | decide) dX7_readCharacter_4 rfl ?_
  obtain ⟨fs9, hc9⟩ := stx.cell
  refine q_invV (mc' := 0) (ms' := 0) (d' := d - 1) (as := []) dX7_readCharacter_5 kM_J4_length_8abf5 kL_X7_35 kI_J4_length_8abf5 kS_J4_length_8abf5 rfl (kC_J4.1) hc9 rfl rfl (Nat.le_of_ble_eq_true rfl) (by omega) (by decide) (by omega) (by omega) (e_sbLen (d := d - 1) stx (by omega)) (q_kR ?_) q_xR
  change q_W _ _ _ _ _ _ _ _ 8 [.ref (207), .ref (211), .int (xw)] [.int (nI (cn)), .int (nI (pp))] _
  refine q_icmp_ge 23 dX7_readCharacter_8 (by decide) (fun b8 => ?_) (fun b8 => ?_)
  · have b8 := (nI_leI (a := cn) (b := pp) (by omega) (by omega)).mp b8
    refine q_iconst (v := 0) dX7_readCharacter_23 rfl ?_
    have hE : x_pr_readCharacter pp cn f xw = (false, pp) := by simp only [x_pr_readCharacter, if_pos b8]
    rw [hE]
    exact q_ireturn dX7_readCharacter_24 rfl rfl (by omega) (by omega) ⟨rfl, spr, stx, p0⟩
  · have b8 : ¬ (cn ≤ pp) := fun q => b8 ((nI_leI (a := cn) (b := pp) (by omega) (by omega)).mpr q)
    refine q_aload_n (by first | assumption | omega | decide) dX7_readCharacter_11 rfl ?_
    refine q_aload_n (by first | assumption | omega | decide) dX7_readCharacter_12 rfl ?_
    refine q_getf (k := 4) (v := .int (nI (pp))) kC_X7 kL_X7_25 rfl (by decide) dX7_readCharacter_13 spr.c0 rfl ?_
    obtain ⟨fs9, hc9⟩ := stx.cell
    refine q_invV (mc' := 0) (ms' := 0) (d' := d - 1) (as := [.int (nI (pp))]) dX7_readCharacter_16 kM_J4_charAt_5068e kL_X7_79 kI_J4_charAt_5068e kS_J4_charAt_5068e rfl (kC_J4.1) hc9 rfl rfl (Nat.le_of_ble_eq_true rfl) (by omega) (by decide) (by omega) (by omega) (e_charAt (d := d - 1) stx (i := pp) (by omega) (by omega)) (q_kR ?_) q_xR
    change q_W _ _ _ _ _ _ _ _ 19 [.ref (207), .ref (211), .int (xw)] [.int (f pp)] _
    refine q_iload_n dX7_readCharacter_19 rfl ?_
    refine q_icmp_eq 25 dX7_readCharacter_20 (by decide) (fun b20 => ?_) (fun b20 => ?_)
    · refine q_aload_n (by first | assumption | omega | decide) dX7_readCharacter_25 rfl ?_
      refine q_dup dX7_readCharacter_26 rfl ?_
      refine q_getf (k := 4) (v := .int (nI (pp))) kC_X7 kL_X7_25 rfl (by decide) dX7_readCharacter_27 spr.c0 rfl ?_
      refine q_iconst (v := 1) dX7_readCharacter_30 rfl ?_
      refine q_iaddN (a := pp) (b := 1) dX7_readCharacter_31 ?_
      change q_W _ _ _ _ _ _ _ _ _ _ [.int (nI (pp + 1)), .ref (207)] _
      refine q_putf (k := 4) kC_X7 kL_X7_25 rfl (by decide) rfl dX7_readCharacter_32 spr.c0 (Nat.le_of_ble_eq_true rfl) ⟨rfl, rfl⟩ rfl ?_
      refine z_genW (B := fun H => z_Pr H 207 pc (pp + 1) po vb oa ob ∧ z_Sb H 211 cn f v ∧ q_same h H 207 4) ⟨z_Pr.put0 spr (pc' := pc) (pp' := pp + 1) (hbpc := by omega) (hbpp := by omega), stx.keep (q_same.set (a := 207) (k := 1) (Nat.le_refl _) (by omega)) (by omega), p0.trans (q_same.set (by omega) (by omega))⟩ (fun h1 hB => ?_)
      obtain ⟨spr1, stx1, p1⟩ := hB
      have hb_pr_pc := spr1.bpc
      have hb_pr_pp := spr1.bpp
      refine q_iconst (v := 1) dX7_readCharacter_35 rfl ?_
      have hE : x_pr_readCharacter pp cn f xw = (true, pp + 1) := by simp only [x_pr_readCharacter, if_neg b8, if_pos b20]
      rw [hE]
      exact q_ireturn dX7_readCharacter_36 rfl rfl (by omega) (by omega) ⟨rfl, spr1, stx1, p1⟩
    · refine q_iconst (v := 0) dX7_readCharacter_23 rfl ?_
      have hE : x_pr_readCharacter pp cn f xw = (false, pp) := by simp only [x_pr_readCharacter, if_neg b8, if_neg b20]
      rw [hE]
      exact q_ireturn dX7_readCharacter_24 rfl rfl (by omega) (by omega) ⟨rfl, spr, stx, p0⟩
def x_pr_noteOperand (pc : Nat) (po : Int32) (oa : Nat → Int32) (ob : Nat → Int32) (xv : Int32) : (Int32) × (Nat → Int32) × (Nat → Int32) := (if (po) = (0) then (po + (1 : Int32), upd oa pc (xv), ob) else (po + (1 : Int32), oa, upd ob pc (xv)))
set_option maxRecDepth 100000 in
set_option maxHeartbeats 8000000 in
theorem e_pr_noteOperand {g : q_G} {h : q_H} {d : Nat} {pc : Nat} {pp : Nat} {po : Int32} {vb : Nat → Int32} {oa : Nat → Int32} {ob : Nat → Int32} (spr : z_Pr h 207 pc pp po vb oa ob)  (xv : Int32) (hpc : pc < 16)  (hd : 0 ≤ d) : q_Spec g mX7_noteOperand d 0 0 [.ref (207), .int (xv)] h (q_chg (.inl none) (fun h1 => z_Pr h1 207 pc pp ((x_pr_noteOperand pc po oa ob xv).1) vb ((x_pr_noteOperand pc po oa ob xv).2.1) ((x_pr_noteOperand pc po oa ob xv).2.2) ∧ q_same h h1 207 4)) := by
  have hb_pr_pc := spr.bpc
  have hb_pr_pp := spr.bpp
  have ho_pr_pc := spr.bpc
  have ho_pr_pp := spr.bpp
  have p0 : q_same h h 207 4 := q_same.rfl'
  refine q_enter (by decide +kernel) rfl rfl (Nat.le_of_ble_eq_true rfl) (fun hz => ?_)
  change q_W _ _ _ _ _ _ _ _ _ [.ref (207), .int (xv), q_u] [] _
  refine q_aload_n (by first | assumption | omega | decide) dX7_noteOperand_0 rfl ?_
  refine q_getf (k := 5) (v := .int (po)) kC_X7 kL_X7_28 rfl (by decide) dX7_noteOperand_1 spr.c0 rfl ?_
  refine q_if_ne 14 dX7_noteOperand_4 (by decide) (fun b4 => ?_) (fun b4 => ?_)
  · refine q_aload_n (by first | assumption | omega | decide) dX7_noteOperand_14 rfl ?_
    refine q_getf (k := 2) (v := .ref (210)) kC_X7 kL_X7_18 rfl (by decide) dX7_noteOperand_15 spr.c0 rfl ?_
    refine q_astore_n (by first | assumption | omega | decide) dX7_noteOperand_18 (by decide) rfl ?_
    change q_W _ _ _ _ _ _ _ _ _ [.ref (207), .int (xv), .ref (210)] [] _
    refine q_aload_n (by first | assumption | omega | decide) dX7_noteOperand_19 rfl ?_
    refine q_aload_n (by first | assumption | omega | decide) dX7_noteOperand_20 rfl ?_
    refine q_getf (k := 3) (v := .int (nI (pc))) kC_X7 kL_X7_21 rfl (by decide) dX7_noteOperand_21 spr.c0 rfl ?_
    refine q_iload_n dX7_noteOperand_24 rfl ?_
    refine q_iastN (j := pc) dX7_noteOperand_25 spr.c3 (by omega) (by decide) ?_
    refine z_genW (B := fun H => z_Pr H 207 pc pp po vb oa (upd ob pc (xv)) ∧ q_same h H 207 4) ⟨z_Pr.put3 spr, p0.trans (q_same.set (by omega) (by omega))⟩ (fun h1 hB => ?_)
    obtain ⟨spr1, p1⟩ := hB
    have hb_pr_pc := spr1.bpc
    have hb_pr_pp := spr1.bpp
    refine q_aload_n (by first | assumption | omega | decide) dX7_noteOperand_26 rfl ?_
    refine q_dup dX7_noteOperand_27 rfl ?_
    refine q_getf (k := 5) (v := .int (po)) kC_X7 kL_X7_28 rfl (by decide) dX7_noteOperand_28 spr1.c0 rfl ?_
    refine q_iconst (v := 1) dX7_noteOperand_31 rfl ?_
    refine q_iadd dX7_noteOperand_32 ?_
    refine q_putf (k := 5) kC_X7 kL_X7_28 rfl (by decide) rfl dX7_noteOperand_33 spr1.c0 (Nat.le_of_ble_eq_true rfl) ⟨rfl, rfl⟩ rfl ?_
    refine z_genW (B := fun H => z_Pr H 207 pc pp (po + (1 : Int32)) vb oa (upd ob pc (xv)) ∧ q_same h H 207 4) ⟨z_Pr.put0 spr1 (pc' := pc) (pp' := pp) (hbpc := by omega) (hbpp := by omega), p1.trans (q_same.set (by omega) (by omega))⟩ (fun h2 hB => ?_)
    obtain ⟨spr2, p2⟩ := hB
    have hb_pr_pc := spr2.bpc
    have hb_pr_pp := spr2.bpp
    have hE : x_pr_noteOperand pc po oa ob xv = (po + (1 : Int32), oa, upd ob pc (xv)) := by simp only [x_pr_noteOperand, if_neg b4]
    rw [hE]
    exact q_return dX7_noteOperand_36 rfl (by omega) (by omega) ⟨rfl, spr2, p2⟩
  · refine q_aload_n (by first | assumption | omega | decide) dX7_noteOperand_7 rfl ?_
    refine q_getf (k := 1) (v := .ref (209)) kC_X7 kL_X7_15 rfl (by decide) dX7_noteOperand_8 spr.c0 rfl ?_
    refine q_goto 18 dX7_noteOperand_11 (by decide) ?_
    refine q_astore_n (by first | assumption | omega | decide) dX7_noteOperand_18 (by decide) rfl ?_
    change q_W _ _ _ _ _ _ _ _ _ [.ref (207), .int (xv), .ref (209)] [] _
    refine q_aload_n (by first | assumption | omega | decide) dX7_noteOperand_19 rfl ?_
    refine q_aload_n (by first | assumption | omega | decide) dX7_noteOperand_20 rfl ?_
    refine q_getf (k := 3) (v := .int (nI (pc))) kC_X7 kL_X7_21 rfl (by decide) dX7_noteOperand_21 spr.c0 rfl ?_
    refine q_iload_n dX7_noteOperand_24 rfl ?_
    refine q_iastN (j := pc) dX7_noteOperand_25 spr.c2 (by omega) (by decide) ?_
    refine z_genW (B := fun H => z_Pr H 207 pc pp po vb (upd oa pc (xv)) ob ∧ q_same h H 207 4) ⟨z_Pr.put2 spr, p0.trans (q_same.set (by omega) (by omega))⟩ (fun h3 hB => ?_)
    obtain ⟨spr3, p3⟩ := hB
    have hb_pr_pc := spr3.bpc
    have hb_pr_pp := spr3.bpp
    refine q_aload_n (by first | assumption | omega | decide) dX7_noteOperand_26 rfl ?_
    refine q_dup dX7_noteOperand_27 rfl ?_
    refine q_getf (k := 5) (v := .int (po)) kC_X7 kL_X7_28 rfl (by decide) dX7_noteOperand_28 spr3.c0 rfl ?_
    refine q_iconst (v := 1) dX7_noteOperand_31 rfl ?_
    refine q_iadd dX7_noteOperand_32 ?_
    refine q_putf (k := 5) kC_X7 kL_X7_28 rfl (by decide) rfl dX7_noteOperand_33 spr3.c0 (Nat.le_of_ble_eq_true rfl) ⟨rfl, rfl⟩ rfl ?_
    refine z_genW (B := fun H => z_Pr H 207 pc pp (po + (1 : Int32)) vb (upd oa pc (xv)) ob ∧ q_same h H 207 4) ⟨z_Pr.put0 spr3 (pc' := pc) (pp' := pp) (hbpc := by omega) (hbpp := by omega), p3.trans (q_same.set (by omega) (by omega))⟩ (fun h4 hB => ?_)
    obtain ⟨spr4, p4⟩ := hB
    have hb_pr_pc := spr4.bpc
    have hb_pr_pp := spr4.bpp
    have hE : x_pr_noteOperand pc po oa ob xv = (po + (1 : Int32), upd oa pc (xv), ob) := by simp only [x_pr_noteOperand, if_pos b4]
    rw [hE]
    exact q_return dX7_noteOperand_36 rfl (by omega) (by omega) ⟨rfl, spr4, p4⟩
def x_pr_readNumber_5 (cn : Nat) (f : Nat → Int32) : Nat → Nat → (Int32) → (Nat) → (Int32) × (Nat) × (Nat)
  | 0, k, c5_3, pp_5 => (c5_3, k, pp_5)
  | r + 1, k, c5_3, pp_5 => (if cn ≤ pp_5 then (c5_3, k, pp_5) else (if x_pr_isDigit (f pp_5) then x_pr_readNumber_5 cn f r (k + 1) ((c5_3 * (10 : Int32)) + ((f pp_5) - (48 : Int32))) (pp_5 + 1) else (c5_3, k, pp_5)))
set_option maxRecDepth 100000 in
set_option maxHeartbeats 8000000 in
theorem l_pr_readNumber_5 {g : q_G} {h : q_H} {d mc ms kc ks : Nat} {Q : q_O → q_H → Prop} {pc : Nat} {po : Int32} {vb : Nat → Int32} {oa : Nat → Int32} {ob : Nat → Int32} {cn : Nat} {f : Nat → Int32} {v : Nat} {m : Nat}   (hcn : cn ≤ 60) (hv : v = 212 ∨ 225 ≤ v) (hpc : pc < 16) (hm : m ≤ 2) (ho_pr_pc : pc ≤ 16) (ho_tx_cn : cn ≤ 286)  (hd : 4 ≤ d) (hkc : kc + 0 ≤ mc) (hks : ks + 0 ≤ ms) : ∀ (r k : Nat) (c5_3 : Int32) (pp_5 : Nat) (hh : q_H) (spr_5 : z_Pr hh 207 pc pp_5 po vb oa ob) (stx_5 : z_Sb hh 211 cn f v) (pH : q_same h hh 207 4) (hk_5 : k + r = m) (K : ∀ (r5_0 : Int32) (r5_1 : Nat) (r5_2 : Nat), x_pr_readNumber_5 cn f r k c5_3 pp_5 = (r5_0, r5_1, r5_2) → r5_1 ≤ m → ∀ h2, z_Pr h2 207 pc r5_2 po vb oa ob → z_Sb h2 211 cn f v → q_same h h2 207 4 → q_W g mX7_readNumber d mc ms Q kc ks 69 [.ref (207), q_u, q_u, .int (r5_0), .int (nI (r5_1))] [] h2), q_W g mX7_readNumber d mc ms Q kc ks 5 [.ref (207), .ref (211), .int (nI (m)), .int (c5_3), .int (nI (k))] [] hh := by
  intro r
  induction r with
  | zero =>
    intro k c5_3 pp_5 hh spr_5 stx_5 pH hk_5 K
    have hb_pr_pc := spr_5.bpc
    have hb_pr_pp := spr_5.bpp
    have hb_tx_cn := stx_5.bcn
    refine q_iload dX7_readNumber_5 rfl ?_
    refine q_iload_n dX7_readNumber_7 rfl ?_
    refine q_icmp_ge 69 dX7_readNumber_8 (by decide) (fun b8 => ?_) (fun b8 => ?_)
    · have b8 := (nI_leI (a := m) (b := k) (by omega) (by omega)).mp b8
      refine q_forget 1 ?_
      refine q_forget 2 ?_
      change q_W _ _ _ _ _ _ _ _ _ [.ref (207), q_u, q_u, .int (c5_3), .int (nI (k))] [] _
      exact K c5_3 k pp_5 (by simp only [x_pr_readNumber_5]) (by omega) hh spr_5 stx_5 pH
    · have b8 : ¬ (m ≤ k) := fun q => b8 ((nI_leI (a := m) (b := k) (by omega) (by omega)).mpr q)
      exact absurd b8 (by omega)
  | succ r ih =>
    intro k c5_3 pp_5 hh spr_5 stx_5 pH hk_5 K
    have hb_pr_pc := spr_5.bpc
    have hb_pr_pp := spr_5.bpp
    have hb_tx_cn := stx_5.bcn
    refine q_iload dX7_readNumber_5 rfl ?_
    refine q_iload_n dX7_readNumber_7 rfl ?_
    refine q_icmp_ge 69 dX7_readNumber_8 (by decide) (fun b8 => ?_) (fun b8 => ?_)
    · have b8 := (nI_leI (a := m) (b := k) (by omega) (by omega)).mp b8
      exact absurd b8 (by omega)
    · have b8 : ¬ (m ≤ k) := fun q => b8 ((nI_leI (a := m) (b := k) (by omega) (by omega)).mpr q)
      refine q_aload_n (by first | assumption | omega | decide) dX7_readNumber_11 rfl ?_
      refine q_getf (k := 4) (v := .int (nI (pp_5))) kC_X7 kL_X7_25 rfl (by decide) dX7_readNumber_12 spr_5.c0 rfl ?_
      refine q_aload_n (by first | assumption | omega | decide) dX7_readNumber_15 rfl ?_
      obtain ⟨fs9, hc9⟩ := stx_5.cell
      refine q_invV (mc' := 0) (ms' := 0) (d' := d - 1) (as := []) dX7_readNumber_16 kM_J4_length_8abf5 kL_X7_35 kI_J4_length_8abf5 kS_J4_length_8abf5 rfl (kC_J4.1) hc9 rfl rfl (Nat.le_of_ble_eq_true rfl) (by omega) (by decide) (by omega) (by omega) (e_sbLen (d := d - 1) stx_5 (by omega)) (q_kR ?_) q_xR
      change q_W _ _ _ _ _ _ _ _ 19 [.ref (207), .ref (211), .int (nI (m)), .int (c5_3), .int (nI (k))] [.int (nI (cn)), .int (nI (pp_5))] _
      refine q_icmp_ge 69 dX7_readNumber_19 (by decide) (fun b19 => ?_) (fun b19 => ?_)
      · have b19 := (nI_leI (a := cn) (b := pp_5) (by omega) (by omega)).mp b19
        refine q_forget 1 ?_
        refine q_forget 2 ?_
        change q_W _ _ _ _ _ _ _ _ _ [.ref (207), q_u, q_u, .int (c5_3), .int (nI (k))] [] _
        exact K c5_3 k pp_5 (by simp only [x_pr_readNumber_5, if_pos b19]) (by omega) hh spr_5 stx_5 pH
      · have b19 : ¬ (cn ≤ pp_5) := fun q => b19 ((nI_leI (a := cn) (b := pp_5) (by omega) (by omega)).mpr q)
        refine q_aload_n (by first | assumption | omega | decide) dX7_readNumber_22 rfl ?_
        refine q_aload_n (by first | assumption | omega | decide) dX7_readNumber_23 rfl ?_
        refine q_getf (k := 4) (v := .int (nI (pp_5))) kC_X7 kL_X7_25 rfl (by decide) dX7_readNumber_24 spr_5.c0 rfl ?_
        obtain ⟨fs9, hc9⟩ := stx_5.cell
        refine q_invV (mc' := 0) (ms' := 0) (d' := d - 1) (as := [.int (nI (pp_5))]) dX7_readNumber_27 kM_J4_charAt_5068e kL_X7_79 kI_J4_charAt_5068e kS_J4_charAt_5068e rfl (kC_J4.1) hc9 rfl rfl (Nat.le_of_ble_eq_true rfl) (by omega) (by decide) (by omega) (by omega) (e_charAt (d := d - 1) stx_5 (i := pp_5) (by omega) (by omega)) (q_kR ?_) q_xR
        change q_W _ _ _ _ _ _ _ _ 30 [.ref (207), .ref (211), .int (nI (m)), .int (c5_3), .int (nI (k))] [.int (f pp_5)] _
        refine q_invS (mc' := 0) (ms' := 0) (d' := d - 1) (as := [.int (f pp_5)]) dX7_readNumber_30 kM_X7_isDigit kL_X7_80 kT_X7_isDigit rfl rfl rfl (Nat.le_of_ble_eq_true rfl) (by omega) (by decide) (by omega) (by omega) (e_pr_isDigit (d := d - 1) (f pp_5) (by omega)) (q_kR ?_) q_xR
        change q_W _ _ _ _ _ _ _ _ 33 [.ref (207), .ref (211), .int (nI (m)), .int (c5_3), .int (nI (k))] [.int (z_b (x_pr_isDigit (f pp_5)))] _
        refine q_if_eq 69 dX7_readNumber_33 (by decide) (fun b33 => ?_) (fun b33 => ?_)
        · have b33 := z_b0n b33
          refine q_forget 1 ?_
          refine q_forget 2 ?_
          change q_W _ _ _ _ _ _ _ _ _ [.ref (207), q_u, q_u, .int (c5_3), .int (nI (k))] [] _
          exact K c5_3 k pp_5 (by simp only [x_pr_readNumber_5, if_neg b19, if_neg b33]) (by omega) hh spr_5 stx_5 pH
        · have b33 := z_b1 b33
          refine q_iload_n dX7_readNumber_36 rfl ?_
          refine q_bipush (v := 10) dX7_readNumber_37 rfl ?_
          refine q_imul dX7_readNumber_39 ?_
          refine q_aload_n (by first | assumption | omega | decide) dX7_readNumber_40 rfl ?_
          refine q_aload_n (by first | assumption | omega | decide) dX7_readNumber_41 rfl ?_
          refine q_getf (k := 4) (v := .int (nI (pp_5))) kC_X7 kL_X7_25 rfl (by decide) dX7_readNumber_42 spr_5.c0 rfl ?_
          obtain ⟨fs9, hc9⟩ := stx_5.cell
          refine q_invV (mc' := 0) (ms' := 0) (d' := d - 1) (as := [.int (nI (pp_5))]) dX7_readNumber_45 kM_J4_charAt_5068e kL_X7_79 kI_J4_charAt_5068e kS_J4_charAt_5068e rfl (kC_J4.1) hc9 rfl rfl (Nat.le_of_ble_eq_true rfl) (by omega) (by decide) (by omega) (by omega) (e_charAt (d := d - 1) stx_5 (i := pp_5) (by omega) (by omega)) (q_kR ?_) q_xR
          change q_W _ _ _ _ _ _ _ _ 48 [.ref (207), .ref (211), .int (nI (m)), .int (c5_3), .int (nI (k))] [.int (f pp_5), .int (c5_3 * (10 : Int32))] _
          refine q_bipush (v := 48) dX7_readNumber_48 rfl ?_
          refine q_isub dX7_readNumber_50 ?_
          refine q_iadd dX7_readNumber_51 ?_
          refine q_istore_n dX7_readNumber_52 (by decide) rfl ?_
          change q_W _ _ _ _ _ _ _ _ _ [.ref (207), .ref (211), .int (nI (m)), .int ((c5_3 * (10 : Int32)) + ((f pp_5) - (48 : Int32))), .int (nI (k))] [] _
          refine q_aload_n (by first | assumption | omega | decide) dX7_readNumber_53 rfl ?_
          refine q_dup dX7_readNumber_54 rfl ?_
          refine q_getf (k := 4) (v := .int (nI (pp_5))) kC_X7 kL_X7_25 rfl (by decide) dX7_readNumber_55 spr_5.c0 rfl ?_
          refine q_iconst (v := 1) dX7_readNumber_58 rfl ?_
          refine q_iaddN (a := pp_5) (b := 1) dX7_readNumber_59 ?_
          change q_W _ _ _ _ _ _ _ _ _ _ [.int (nI (pp_5 + 1)), .ref (207)] _
          refine q_putf (k := 4) kC_X7 kL_X7_25 rfl (by decide) rfl dX7_readNumber_60 spr_5.c0 (Nat.le_of_ble_eq_true rfl) ⟨rfl, rfl⟩ rfl ?_
          refine z_genW (B := fun H => z_Pr H 207 pc (pp_5 + 1) po vb oa ob ∧ z_Sb H 211 cn f v ∧ q_same h H 207 4) ⟨z_Pr.put0 spr_5 (pc' := pc) (pp' := pp_5 + 1) (hbpc := by omega) (hbpp := by omega), stx_5.keep (q_same.set (a := 207) (k := 1) (Nat.le_refl _) (by omega)) (by omega), pH.trans (q_same.set (by omega) (by omega))⟩ (fun h1 hB => ?_)
          obtain ⟨spr1, stx1, p1⟩ := hB
          have hb_pr_pc := spr1.bpc
          have hb_pr_pp := spr1.bpp
          refine q_iinc (x := nI (k)) (v := nI (k + 1)) dX7_readNumber_63 rfl (nI_add _ 1) rfl ?_
          change q_W _ _ _ _ _ _ _ _ _ [.ref (207), .ref (211), .int (nI (m)), .int ((c5_3 * (10 : Int32)) + ((f pp_5) - (48 : Int32))), .int (nI (k + 1))] [] _
          refine q_goto 5 dX7_readNumber_66 (by decide) ?_
          change q_W _ _ _ _ _ _ _ _ _ [.ref (207), .ref (211), .int (nI (m)), .int ((c5_3 * (10 : Int32)) + ((f pp_5) - (48 : Int32))), .int (nI (k + 1))] [] _
          exact ih (k + 1) ((c5_3 * (10 : Int32)) + ((f pp_5) - (48 : Int32))) (pp_5 + 1) h1 spr1 stx1 p1 (by omega) (fun r5_0 r5_1 r5_2 e9 => K r5_0 r5_1 r5_2 (by simp only [x_pr_readNumber_5, if_neg b19, if_pos b33]; exact e9))
def x_pr_readNumber (pc : Nat) (pp : Nat) (po : Int32) (oa : Nat → Int32) (ob : Nat → Int32) (cn : Nat) (f : Nat → Int32) (m : Nat) : (Bool) × (Nat) × (Int32) × (Nat → Int32) × (Nat → Int32) := (match x_pr_readNumber_5 cn f m 0 0 pp with | (a2_0, a2_1, a2_2) => (if a2_1 = 0 then (false, a2_2, po, oa, ob) else (match x_pr_noteOperand pc po oa ob a2_0 with | (y4_po, y4_oa, y4_ob) => (true, a2_2, y4_po, y4_oa, y4_ob))))
set_option maxRecDepth 100000 in
set_option maxHeartbeats 8000000 in
theorem e_pr_readNumber {g : q_G} {h : q_H} {d : Nat} {pc : Nat} {pp : Nat} {po : Int32} {vb : Nat → Int32} {oa : Nat → Int32} {ob : Nat → Int32} (spr : z_Pr h 207 pc pp po vb oa ob) {cn : Nat} {f : Nat → Int32} {v : Nat} (stx : z_Sb h 211 cn f v)  (m : Nat) (hcn : cn ≤ 60) (hv : v = 212 ∨ 225 ≤ v) (hpc : pc < 16) (hm : m ≤ 2)  (hd : 4 ≤ d) : q_Spec g mX7_readNumber d 0 0 [.ref (207), .ref (211), .int (nI (m))] h (q_chg (.inl (some (.int (z_b (x_pr_readNumber pc pp po oa ob cn f m).1)))) (fun h1 => z_Pr h1 207 pc ((x_pr_readNumber pc pp po oa ob cn f m).2.1) ((x_pr_readNumber pc pp po oa ob cn f m).2.2.1) vb ((x_pr_readNumber pc pp po oa ob cn f m).2.2.2.1) ((x_pr_readNumber pc pp po oa ob cn f m).2.2.2.2) ∧ z_Sb h1 211 cn f v ∧ q_same h h1 207 4)) := by
  have hb_pr_pc := spr.bpc
  have hb_pr_pp := spr.bpp
  have hb_tx_cn := stx.bcn
  have ho_pr_pc := spr.bpc
  have ho_pr_pp := spr.bpp
  have ho_tx_cn := stx.bcn
  have p0 : q_same h h 207 4 := q_same.rfl'
  refine q_enter (by decide +kernel) rfl rfl (Nat.le_of_ble_eq_true rfl) (fun hz => ?_)
  change q_W _ _ _ _ _ _ _ _ _ [.ref (207), .ref (211), .int (nI (m)), q_u, q_u] [] _
  refine q_iconst (v := 0) dX7_readNumber_0 rfl ?_
  refine q_istore_n dX7_readNumber_1 (by decide) rfl ?_
  change q_W _ _ _ _ _ _ _ _ _ [.ref (207), .ref (211), .int (nI (m)), .int (0), q_u] [] _
  refine q_iconst (v := 0) dX7_readNumber_2 rfl ?_
  refine q_istore dX7_readNumber_3 (by decide) rfl ?_
  change q_W _ _ _ _ _ _ _ _ _ [.ref (207), .ref (211), .int (nI (m)), .int (0), .int (0)] [] _
  change q_W _ _ _ _ _ _ _ _ _ [.ref (207), .ref (211), .int (nI (m)), .int (0), .int (0)] [] _
  refine l_pr_readNumber_5 hcn hv hpc hm ho_pr_pc ho_tx_cn (by omega) (by omega) (by omega) m 0 0 pp h spr stx p0 (by omega) (fun a2_0 a2_1 a2_2 x2 hq2_1 h3 spr3 stx3 p3 => ?_)
  have hb_pr_pc := spr3.bpc
  have hb_pr_pp := spr3.bpp
  change q_W _ _ _ _ _ _ _ _ 69 [.ref (207), q_u, q_u, .int (a2_0), .int (nI (a2_1))] [] _
  refine q_iload dX7_readNumber_69 rfl ?_
  refine q_if_ne 76 dX7_readNumber_71 (by decide) (fun b71 => ?_) (fun b71 => ?_)
  · have b71 : ¬ (a2_1 = 0) := fun q => b71 ((nI_eq (a := a2_1) (b := 0) (by omega) (by omega)).mpr q)
    refine q_aload_n (by first | assumption | omega | decide) dX7_readNumber_76 rfl ?_
    refine q_iload_n dX7_readNumber_77 rfl ?_
    rcases x4 : x_pr_noteOperand pc po oa ob a2_0 with ⟨y4_po, y4_oa, y4_ob⟩
    have e9 := e_pr_noteOperand (g := g) (h := h3) (d := d - 1) spr3 a2_0 (by omega) (by omega)
    rw [x4] at e9
    refine q_invV (mc' := 0) (ms' := 0) (d' := d - 1) (as := [.int (a2_0)]) dX7_readNumber_78 kM_X7_noteOperand kL_X7_84 kI_X7_noteOperand kS_X7_noteOperand rfl (kC_X7.1) spr3.c0 rfl rfl (Nat.le_of_ble_eq_true rfl) (by omega) (by decide) (by omega) (by omega) (e9) (q_kC (fun h5 hB => ?_)) q_xC
    obtain ⟨t5_0, pp5⟩ := hB
    have spr5 := t5_0
    have stx5 := stx3.keep pp5 (by omega)
    have p5 := p3.trans (pp5.wide (by omega) (by omega))
    have hb_pr_pc := spr5.bpc
    have hb_pr_pp := spr5.bpp
    change q_W _ _ _ _ _ _ _ _ 81 [.ref (207), q_u, q_u, .int (a2_0), .int (nI (a2_1))] [] _
    refine q_iconst (v := 1) dX7_readNumber_81 rfl ?_
    have hE : x_pr_readNumber pc pp po oa ob cn f m = (true, a2_2, y4_po, y4_oa, y4_ob) := by simp only [x_pr_readNumber, x2, if_neg b71, x4]
    rw [hE]
    exact q_ireturn dX7_readNumber_82 rfl rfl (by omega) (by omega) ⟨rfl, spr5, stx5, p5⟩
  · have b71 := (nI_eq (a := a2_1) (b := 0) (by omega) (by omega)).mp b71
    refine q_iconst (v := 0) dX7_readNumber_74 rfl ?_
    have hE : x_pr_readNumber pc pp po oa ob cn f m = (false, a2_2, po, oa, ob) := by simp only [x_pr_readNumber, x2, if_pos b71]
    rw [hE]
    exact q_ireturn dX7_readNumber_75 rfl rfl (by omega) (by omega) ⟨rfl, spr3, stx3, p3⟩
def x_pr_readPart (pc : Nat) (pp : Nat) (po : Int32) (oa : Nat → Int32) (ob : Nat → Int32) (cn : Nat) (f : Nat → Int32) (xp : Int32) : (Bool) × (Nat) × (Int32) × (Nat → Int32) × (Nat → Int32) := (if (xp) = (35) then (match x_pr_readNumber pc pp po oa ob cn f 2 with | (v5, y5_pp, y5_po, y5_oa, y5_ob) => (v5, y5_pp, y5_po, y5_oa, y5_ob)) else (if (xp) = (63) then (match x_pr_readNumber pc pp po oa ob cn f 1 with | (v3, y3_pp, y3_po, y3_oa, y3_ob) => (v3, y3_pp, y3_po, y3_oa, y3_ob)) else (match x_pr_readCharacter pp cn f xp with | (v1, y1_pp) => (v1, y1_pp, po, oa, ob))))
set_option maxRecDepth 100000 in
set_option maxHeartbeats 8000000 in
theorem e_pr_readPart {g : q_G} {h : q_H} {d : Nat} {pc : Nat} {pp : Nat} {po : Int32} {vb : Nat → Int32} {oa : Nat → Int32} {ob : Nat → Int32} (spr : z_Pr h 207 pc pp po vb oa ob) {cn : Nat} {f : Nat → Int32} {v : Nat} (stx : z_Sb h 211 cn f v)  (xp : Int32) (hcn : cn ≤ 60) (hv : v = 212 ∨ 225 ≤ v) (hpc : pc < 16)  (hd : 5 ≤ d) : q_Spec g mX7_readPart d 0 0 [.ref (207), .ref (211), .int (xp)] h (q_chg (.inl (some (.int (z_b (x_pr_readPart pc pp po oa ob cn f xp).1)))) (fun h1 => z_Pr h1 207 pc ((x_pr_readPart pc pp po oa ob cn f xp).2.1) ((x_pr_readPart pc pp po oa ob cn f xp).2.2.1) vb ((x_pr_readPart pc pp po oa ob cn f xp).2.2.2.1) ((x_pr_readPart pc pp po oa ob cn f xp).2.2.2.2) ∧ z_Sb h1 211 cn f v ∧ q_same h h1 207 4)) := by
  have hb_pr_pc := spr.bpc
  have hb_pr_pp := spr.bpp
  have hb_tx_cn := stx.bcn
  have ho_pr_pc := spr.bpc
  have ho_pr_pp := spr.bpp
  have ho_tx_cn := stx.bcn
  have p0 : q_same h h 207 4 := q_same.rfl'
  refine q_enter (by decide +kernel) rfl rfl (Nat.le_of_ble_eq_true rfl) (fun hz => ?_)
  change q_W _ _ _ _ _ _ _ _ _ [.ref (207), .ref (211), .int (xp)] [] _
  refine q_iload_n dX7_readPart_0 rfl ?_
  refine q_bipush (v := 35) dX7_readPart_1 rfl ?_
  refine q_icmp_ne 13 dX7_readPart_3 (by decide) (fun b3 => ?_) (fun b3 => ?_)
  · refine q_iload_n dX7_readPart_13 rfl ?_
    refine q_bipush (v := 63) dX7_readPart_14 rfl ?_
    refine q_icmp_ne 26 dX7_readPart_16 (by decide) (fun b16 => ?_) (fun b16 => ?_)
    · refine q_aload_n (by first | assumption | omega | decide) dX7_readPart_26 rfl ?_
      refine q_aload_n (by first | assumption | omega | decide) dX7_readPart_27 rfl ?_
      refine q_iload_n dX7_readPart_28 rfl ?_
      rcases x1 : x_pr_readCharacter pp cn f xp with ⟨v1, y1_pp⟩
      have e9 := e_pr_readCharacter (g := g) (h := h) (d := d - 1) spr stx xp (by omega) (by omega) (by omega)
      rw [x1] at e9
      refine q_invV (mc' := 0) (ms' := 0) (d' := d - 1) (as := [.ref (211), .int (xp)]) dX7_readPart_29 kM_X7_readCharacter kL_X7_41 kI_X7_readCharacter kS_X7_readCharacter rfl (kC_X7.1) spr.c0 rfl rfl (Nat.le_of_ble_eq_true rfl) (by omega) (by decide) (by omega) (by omega) (e9) (q_kC (fun h2 hB => ?_)) q_xC
      obtain ⟨t2_0, t2_1, pp2⟩ := hB
      have spr2 := t2_0
      have stx2 := t2_1
      have p2 := p0.trans (pp2.wide (by omega) (by omega))
      have hb_pr_pc := spr2.bpc
      have hb_pr_pp : y1_pp ≤ 60 := spr2.bpp
      change q_W _ _ _ _ _ _ _ _ 32 [.ref (207), .ref (211), .int (xp)] [.int (z_b (v1))] _
      have hE : x_pr_readPart pc pp po oa ob cn f xp = (v1, y1_pp, po, oa, ob) := by simp only [x_pr_readPart, if_neg b3, if_neg b16, x1]
      rw [hE]
      exact q_ireturn dX7_readPart_32 rfl (z_b_nar _) (by omega) (by omega) ⟨rfl, spr2, stx2, p2⟩
    · refine q_aload_n (by first | assumption | omega | decide) dX7_readPart_19 rfl ?_
      refine q_aload_n (by first | assumption | omega | decide) dX7_readPart_20 rfl ?_
      refine q_iconst (v := 1) dX7_readPart_21 rfl ?_
      rcases x3 : x_pr_readNumber pc pp po oa ob cn f 1 with ⟨v3, y3_pp, y3_po, y3_oa, y3_ob⟩
      have e9 := e_pr_readNumber (g := g) (h := h) (d := d - 1) spr stx 1 (by omega) (by omega) (by omega) (by omega) (by omega)
      rw [x3] at e9
      refine q_invV (mc' := 0) (ms' := 0) (d' := d - 1) (as := [.ref (211), .int (1)]) dX7_readPart_22 kM_X7_readNumber kL_X7_75 kI_X7_readNumber kS_X7_readNumber rfl (kC_X7.1) spr.c0 rfl rfl (Nat.le_of_ble_eq_true rfl) (by omega) (by decide) (by omega) (by omega) (e9) (q_kC (fun h4 hB => ?_)) q_xC
      obtain ⟨t4_0, t4_1, pp4⟩ := hB
      have spr4 := t4_0
      have stx4 := t4_1
      have p4 := p0.trans (pp4.wide (by omega) (by omega))
      have hb_pr_pc := spr4.bpc
      have hb_pr_pp : y3_pp ≤ 60 := spr4.bpp
      change q_W _ _ _ _ _ _ _ _ 25 [.ref (207), .ref (211), .int (xp)] [.int (z_b (v3))] _
      have hE : x_pr_readPart pc pp po oa ob cn f xp = (v3, y3_pp, y3_po, y3_oa, y3_ob) := by simp only [x_pr_readPart, if_neg b3, if_pos b16, x3]
      rw [hE]
      exact q_ireturn dX7_readPart_25 rfl (z_b_nar _) (by omega) (by omega) ⟨rfl, spr4, stx4, p4⟩
  · refine q_aload_n (by first | assumption | omega | decide) dX7_readPart_6 rfl ?_
    refine q_aload_n (by first | assumption | omega | decide) dX7_readPart_7 rfl ?_
    refine q_iconst (v := 2) dX7_readPart_8 rfl ?_
    rcases x5 : x_pr_readNumber pc pp po oa ob cn f 2 with ⟨v5, y5_pp, y5_po, y5_oa, y5_ob⟩
    have e9 := e_pr_readNumber (g := g) (h := h) (d := d - 1) spr stx 2 (by omega) (by omega) (by omega) (by omega) (by omega)
    rw [x5] at e9
    refine q_invV (mc' := 0) (ms' := 0) (d' := d - 1) (as := [.ref (211), .int (2)]) dX7_readPart_9 kM_X7_readNumber kL_X7_75 kI_X7_readNumber kS_X7_readNumber rfl (kC_X7.1) spr.c0 rfl rfl (Nat.le_of_ble_eq_true rfl) (by omega) (by decide) (by omega) (by omega) (e9) (q_kC (fun h6 hB => ?_)) q_xC
    obtain ⟨t6_0, t6_1, pp6⟩ := hB
    have spr6 := t6_0
    have stx6 := t6_1
    have p6 := p0.trans (pp6.wide (by omega) (by omega))
    have hb_pr_pc := spr6.bpc
    have hb_pr_pp : y5_pp ≤ 60 := spr6.bpp
    change q_W _ _ _ _ _ _ _ _ 12 [.ref (207), .ref (211), .int (xp)] [.int (z_b (v5))] _
    have hE : x_pr_readPart pc pp po oa ob cn f xp = (v5, y5_pp, y5_po, y5_oa, y5_ob) := by simp only [x_pr_readPart, if_pos b3, x5]
    rw [hE]
    exact q_ireturn dX7_readPart_12 rfl (z_b_nar _) (by omega) (by omega) ⟨rfl, spr6, stx6, p6⟩
def x_pr_readPattern_7 (pc : Nat) (cn : Nat) (f : Nat → Int32) (k : Nat) : Nat → Nat → (Nat → Int32) → (Nat → Int32) → (Int32) → (Nat) → ((Nat → Int32) × (Nat → Int32) × (Int32) × (Nat)) ⊕ ((Bool) × (Nat) × (Int32) × (Nat → Int32) × (Nat → Int32))
  | 0, _, oa_7, ob_7, po_7, pp_7 => .inl (oa_7, ob_7, po_7, pp_7)
  | r + 1, kk, oa_7, ob_7, po_7, pp_7 => (match x_pr_readPart pc pp_7 po_7 oa_7 ob_7 cn f (x_J0_charAt k kk) with | (v2, y2_pp, y2_po, y2_oa, y2_ob) => (if v2 then x_pr_readPattern_7 pc cn f k r (kk + 1) y2_oa y2_ob y2_po y2_pp else .inr (false, y2_pp, y2_po, y2_oa, y2_ob)))
set_option maxRecDepth 100000 in
set_option maxHeartbeats 8000000 in
theorem l_pr_readPattern_7 {g : q_G} {h : q_H} {d mc ms kc ks : Nat} {Q : q_O → q_H → Prop} {pc : Nat} {vb : Nat → Int32} {cn : Nat} {f : Nat → Int32} {v : Nat} {k : Nat}   (hcn : cn ≤ 60) (hv : v = 212 ∨ 225 ≤ v) (hpc : pc < 16) (hk : k < 11) (hpl : (q_pat k).length ≤ 10) (ho_pr_pc : pc ≤ 16) (ho_tx_cn : cn ≤ 286)  (hd : 6 ≤ d) (hkc : kc + 0 ≤ mc) (hks : ks + 0 ≤ ms) : ∀ (r kk : Nat) (oa_7 : Nat → Int32) (ob_7 : Nat → Int32) (po_7 : Int32) (pp_7 : Nat) (hh : q_H) (spr_7 : z_Pr hh 207 pc pp_7 po_7 vb oa_7 ob_7) (stx_7 : z_Sb hh 211 cn f v) (pH : q_same h hh 207 4) (hk_7 : kk + r = (q_pat k).length) (K : ∀ (r7_0 : Nat → Int32) (r7_1 : Nat → Int32) (r7_2 : Int32) (r7_3 : Nat), x_pr_readPattern_7 pc cn f k r kk oa_7 ob_7 po_7 pp_7 = .inl (r7_0, r7_1, r7_2, r7_3) → ∀ h2, z_Pr h2 207 pc r7_3 r7_2 vb r7_0 r7_1 → z_Sb h2 211 cn f v → q_same h h2 207 4 → q_W g mX7_readPattern d mc ms Q kc ks 36 [q_u, q_u, q_u, q_u] [] h2) (K2 : ∀ z, x_pr_readPattern_7 pc cn f k r kk oa_7 ob_7 po_7 pp_7 = .inr z → ∀ o h1, q_chg (.inl (some (.int (z_b z.1)))) (fun h1 => z_Pr h1 207 pc z.2.1 z.2.2.1 vb z.2.2.2.1 z.2.2.2.2 ∧ z_Sb h1 211 cn f v ∧ q_same h h1 207 4) o h1 → Q o h1), q_W g mX7_readPattern d mc ms Q kc ks 7 [.ref (207), .ref (211), .ref (14 + k), .int (nI (kk))] [] hh := by
  intro r
  induction r with
  | zero =>
    intro kk oa_7 ob_7 po_7 pp_7 hh spr_7 stx_7 pH hk_7 K K2
    have hb_pr_pc := spr_7.bpc
    have hb_pr_pp := spr_7.bpp
    have hb_tx_cn := stx_7.bcn
    refine q_iload_n dX7_readPattern_7 rfl ?_
    refine q_aload_nK (by omega) dX7_readPattern_8 rfl ?_
    refine q_invVO (C := RJ0) (i := 14 + k) (mc' := 0) (ms' := 0) (d' := d - 1) (as := []) dX7_readPattern_9 kM_J0_length_8abf5 kL_X7_65 kI_J0_length_8abf5 kS_J0_length_8abf5 rfl (by unfold q_R0; omega) (q_patO (by omega)) rfl rfl (Nat.le_of_ble_eq_true rfl) (by omega) (by decide) (by omega) (by omega) (e_J0_length (d := d - 1) k (by omega) (by omega)) (q_kR ?_) q_xR
    change q_W _ _ _ _ _ _ _ _ 12 [.ref (207), .ref (211), .ref (14 + k), .int (nI (kk))] [.int (nI ((q_pat k).length)), .int (nI (kk))] _
    refine q_icmp_ge 36 dX7_readPattern_12 (by decide) (fun b12 => ?_) (fun b12 => ?_)
    · have b12 := (nI_leI (a := (q_pat k).length) (b := kk) (by omega) (by omega)).mp b12
      refine q_forget 0 ?_
      refine q_forget 1 ?_
      refine q_forget 2 ?_
      refine q_forget 3 ?_
      change q_W _ _ _ _ _ _ _ _ _ [q_u, q_u, q_u, q_u] [] _
      exact K oa_7 ob_7 po_7 pp_7 (by simp only [x_pr_readPattern_7]) hh spr_7 stx_7 pH
    · have b12 : ¬ ((q_pat k).length ≤ kk) := fun q => b12 ((nI_leI (a := (q_pat k).length) (b := kk) (by omega) (by omega)).mpr q)
      exact absurd b12 (by omega)
  | succ r ih =>
    intro kk oa_7 ob_7 po_7 pp_7 hh spr_7 stx_7 pH hk_7 K K2
    have hb_pr_pc := spr_7.bpc
    have hb_pr_pp := spr_7.bpp
    have hb_tx_cn := stx_7.bcn
    refine q_iload_n dX7_readPattern_7 rfl ?_
    refine q_aload_nK (by omega) dX7_readPattern_8 rfl ?_
    refine q_invVO (C := RJ0) (i := 14 + k) (mc' := 0) (ms' := 0) (d' := d - 1) (as := []) dX7_readPattern_9 kM_J0_length_8abf5 kL_X7_65 kI_J0_length_8abf5 kS_J0_length_8abf5 rfl (by unfold q_R0; omega) (q_patO (by omega)) rfl rfl (Nat.le_of_ble_eq_true rfl) (by omega) (by decide) (by omega) (by omega) (e_J0_length (d := d - 1) k (by omega) (by omega)) (q_kR ?_) q_xR
    change q_W _ _ _ _ _ _ _ _ 12 [.ref (207), .ref (211), .ref (14 + k), .int (nI (kk))] [.int (nI ((q_pat k).length)), .int (nI (kk))] _
    refine q_icmp_ge 36 dX7_readPattern_12 (by decide) (fun b12 => ?_) (fun b12 => ?_)
    · have b12 := (nI_leI (a := (q_pat k).length) (b := kk) (by omega) (by omega)).mp b12
      exact absurd b12 (by omega)
    · have b12 : ¬ ((q_pat k).length ≤ kk) := fun q => b12 ((nI_leI (a := (q_pat k).length) (b := kk) (by omega) (by omega)).mpr q)
      refine q_aload_n (by first | assumption | omega | decide) dX7_readPattern_15 rfl ?_
      refine q_aload_n (by first | assumption | omega | decide) dX7_readPattern_16 rfl ?_
      refine q_aload_nK (by omega) dX7_readPattern_17 rfl ?_
      refine q_iload_n dX7_readPattern_18 rfl ?_
      refine q_invVO (C := RJ0) (i := 14 + k) (mc' := 0) (ms' := 0) (d' := d - 1) (as := [.int (nI (kk))]) dX7_readPattern_19 kM_J0_charAt_5068e kL_X7_68 kI_J0_charAt_5068e kS_J0_charAt_5068e rfl (by unfold q_R0; omega) (q_patO (by omega)) rfl rfl (Nat.le_of_ble_eq_true rfl) (by omega) (by decide) (by omega) (by omega) (e_J0_charAt (d := d - 1) k kk (by omega) (z_patlen _) (by omega) (by omega)) (q_kR ?_) q_xR
      change q_W _ _ _ _ _ _ _ _ 22 [.ref (207), .ref (211), .ref (14 + k), .int (nI (kk))] [.int (x_J0_charAt k kk), .ref (211), .ref (207)] _
      rcases x2 : x_pr_readPart pc pp_7 po_7 oa_7 ob_7 cn f (x_J0_charAt k kk) with ⟨v2, y2_pp, y2_po, y2_oa, y2_ob⟩
      have e9 := e_pr_readPart (g := g) (h := hh) (d := d - 1) spr_7 stx_7 (x_J0_charAt k kk) (by omega) (by omega) (by omega) (by omega)
      rw [x2] at e9
      refine q_invV (mc' := 0) (ms' := 0) (d' := d - 1) (as := [.ref (211), .int (x_J0_charAt k kk)]) dX7_readPattern_22 kM_X7_readPart kL_X7_72 kI_X7_readPart kS_X7_readPart rfl (kC_X7.1) spr_7.c0 rfl rfl (Nat.le_of_ble_eq_true rfl) (by omega) (by decide) (by omega) (by omega) (e9) (q_kC (fun h3 hB => ?_)) q_xC
      obtain ⟨t3_0, t3_1, pp3⟩ := hB
      have spr3 := t3_0
      have stx3 := t3_1
      have p3 := pH.trans (pp3.wide (by omega) (by omega))
      have hb_pr_pc := spr3.bpc
      have hb_pr_pp : y2_pp ≤ 60 := spr3.bpp
      change q_W _ _ _ _ _ _ _ _ 25 [.ref (207), .ref (211), .ref (14 + k), .int (nI (kk))] [.int (z_b (v2))] _
      refine q_if_ne 30 dX7_readPattern_25 (by decide) (fun b25 => ?_) (fun b25 => ?_)
      · have b25 := z_b1 b25
        refine q_iinc (x := nI (kk)) (v := nI (kk + 1)) dX7_readPattern_30 rfl (nI_add _ 1) rfl ?_
        change q_W _ _ _ _ _ _ _ _ _ [.ref (207), .ref (211), .ref (14 + k), .int (nI (kk + 1))] [] _
        refine q_goto 7 dX7_readPattern_33 (by decide) ?_
        change q_W _ _ _ _ _ _ _ _ _ [.ref (207), .ref (211), .ref (14 + k), .int (nI (kk + 1))] [] _
        exact ih (kk + 1) y2_oa y2_ob y2_po y2_pp h3 spr3 stx3 p3 (by omega) (fun r7_0 r7_1 r7_2 r7_3 e9 => K r7_0 r7_1 r7_2 r7_3 (by simp only [x_pr_readPattern_7, x2, if_pos b25]; exact e9)) (fun z9 e9 => K2 z9 (by simp only [x_pr_readPattern_7, x2, if_pos b25]; exact e9))
      · have b25 := z_b0n b25
        refine q_iconst (v := 0) dX7_readPattern_28 rfl ?_
        exact q_ireturn dX7_readPattern_29 rfl rfl (by omega) (by omega) (K2 (false, y2_pp, y2_po, y2_oa, y2_ob) (by simp only [x_pr_readPattern_7, x2, if_neg b25]) _ _ ⟨rfl, spr3, stx3, p3⟩)
def x_pr_readPattern (pc : Nat) (pp : Nat) (oa : Nat → Int32) (ob : Nat → Int32) (cn : Nat) (f : Nat → Int32) (k : Nat) : (Bool) × (Nat) × (Int32) × (Nat → Int32) × (Nat → Int32) := (match x_pr_readPattern_7 pc cn f k ((q_pat k).length) 0 oa ob 0 pp with | .inl (a4_0, a4_1, a4_2, a4_3) => (true, a4_3, a4_2, a4_0, a4_1) | .inr zz => zz)
set_option maxRecDepth 100000 in
set_option maxHeartbeats 8000000 in
theorem e_pr_readPattern {g : q_G} {h : q_H} {d : Nat} {pc : Nat} {pp : Nat} {po : Int32} {vb : Nat → Int32} {oa : Nat → Int32} {ob : Nat → Int32} (spr : z_Pr h 207 pc pp po vb oa ob) {cn : Nat} {f : Nat → Int32} {v : Nat} (stx : z_Sb h 211 cn f v)  (k : Nat) (hcn : cn ≤ 60) (hv : v = 212 ∨ 225 ≤ v) (hpc : pc < 16) (hk : k < 11) (hpl : (q_pat k).length ≤ 10)  (hd : 6 ≤ d) : q_Spec g mX7_readPattern d 0 0 [.ref (207), .ref (211), .ref (14 + k)] h (q_chg (.inl (some (.int (z_b (x_pr_readPattern pc pp oa ob cn f k).1)))) (fun h1 => z_Pr h1 207 pc ((x_pr_readPattern pc pp oa ob cn f k).2.1) ((x_pr_readPattern pc pp oa ob cn f k).2.2.1) vb ((x_pr_readPattern pc pp oa ob cn f k).2.2.2.1) ((x_pr_readPattern pc pp oa ob cn f k).2.2.2.2) ∧ z_Sb h1 211 cn f v ∧ q_same h h1 207 4)) := by
  have hb_pr_pc := spr.bpc
  have hb_pr_pp := spr.bpp
  have hb_tx_cn := stx.bcn
  have ho_pr_pc := spr.bpc
  have ho_pr_pp := spr.bpp
  have ho_tx_cn := stx.bcn
  have p0 : q_same h h 207 4 := q_same.rfl'
  refine q_enter (by decide +kernel) rfl rfl (Nat.le_of_ble_eq_true rfl) (fun hz => ?_)
  change q_W _ _ _ _ _ _ _ _ _ [.ref (207), .ref (211), .ref (14 + k), q_u] [] _
  refine q_aload_n (by first | assumption | omega | decide) dX7_readPattern_0 rfl ?_
  refine q_iconst (v := 0) dX7_readPattern_1 rfl ?_
  refine q_putf (k := 5) kC_X7 kL_X7_28 rfl (by decide) rfl dX7_readPattern_2 spr.c0 (Nat.le_of_ble_eq_true rfl) ⟨rfl, rfl⟩ rfl ?_
  refine z_genW (B := fun H => z_Pr H 207 pc pp 0 vb oa ob ∧ z_Sb H 211 cn f v ∧ q_same h H 207 4) ⟨z_Pr.put0 spr (pc' := pc) (pp' := pp) (hbpc := by omega) (hbpp := by omega), stx.keep (q_same.set (a := 207) (k := 1) (Nat.le_refl _) (by omega)) (by omega), p0.trans (q_same.set (by omega) (by omega))⟩ (fun h1 hB => ?_)
  obtain ⟨spr1, stx1, p1⟩ := hB
  have hb_pr_pc := spr1.bpc
  have hb_pr_pp := spr1.bpp
  refine q_iconst (v := 0) dX7_readPattern_5 rfl ?_
  refine q_istore_n dX7_readPattern_6 (by decide) rfl ?_
  change q_W _ _ _ _ _ _ _ _ _ [.ref (207), .ref (211), .ref (14 + k), .int (0)] [] _
  change q_W _ _ _ _ _ _ _ _ _ [.ref (207), .ref (211), .ref (14 + k), .int (0)] [] _
  refine l_pr_readPattern_7 hcn hv hpc hk hpl ho_pr_pc ho_tx_cn (by omega) (by omega) (by omega) ((q_pat k).length) 0 oa ob 0 pp h1 spr1 stx1 p1 (by omega) (fun a4_0 a4_1 a4_2 a4_3 x4 h5 spr5 stx5 p5 => ?_) (fun zz x4 => ?_)
  · have hb_pr_pc := spr5.bpc
    have hb_pr_pp := spr5.bpp
    change q_W _ _ _ _ _ _ _ _ 36 [q_u, q_u, q_u, q_u] [] _
    refine q_iconst (v := 1) dX7_readPattern_36 rfl ?_
    have hE : x_pr_readPattern pc pp oa ob cn f k = (true, a4_3, a4_2, a4_0, a4_1) := by simp only [x_pr_readPattern, x4]
    rw [hE]
    exact q_ireturn dX7_readPattern_37 rfl rfl (by omega) (by omega) ⟨rfl, spr5, stx5, p5⟩
  · have hE : x_pr_readPattern pc pp oa ob cn f k = zz := by simp only [x_pr_readPattern, x4]
    rw [hE]
    exact fun _ _ q9 => q9
def x_pr_readCommand_10 (pc : Nat) (pp : Nat) (vb : Nat → Int32) (cn : Nat) (f : Nat → Int32) : Nat → Nat → (Nat) → (Nat → Int32) → (Nat → Int32) → (Int32) → (Nat) → ((Nat) × (Nat → Int32) × (Nat → Int32) × (Int32) × (Nat)) ⊕ ((Bool) × (Nat) × (Int32) × (Nat → Int32) × (Nat → Int32) × (Nat → Int32))
  | 0, _, c10_3, oa_10, ob_10, po_10, pp_10 => .inl (c10_3, oa_10, ob_10, po_10, pp_10)
  | r + 1, k, c10_3, oa_10, ob_10, po_10, pp_10 => (match x_pr_readPattern pc pp oa_10 ob_10 cn f k with | (v2, y2_pp, y2_po, y2_oa, y2_ob) => (if v2 then .inr (true, y2_pp, y2_po, upd vb pc (nI (k)), y2_oa, y2_ob) else x_pr_readCommand_10 pc pp vb cn f r (k + 1) (if c10_3 < y2_pp then y2_pp else c10_3) y2_oa y2_ob y2_po y2_pp))
set_option maxRecDepth 100000 in
set_option maxHeartbeats 8000000 in
theorem l_pr_readCommand_10 {g : q_G} {h : q_H} {d mc ms kc ks : Nat} {Q : q_O → q_H → Prop} {pc : Nat} {pp : Nat} {vb : Nat → Int32} {cn : Nat} {f : Nat → Int32} {v : Nat}   (hcn : cn ≤ 60) (hv : v = 212 ∨ 225 ≤ v) (hpc : pc < 16) (ho_pr_pc : pc ≤ 16) (ho_pr_pp : pp ≤ 60) (ho_tx_cn : cn ≤ 286)  (hd : 7 ≤ d) (hkc : kc + 0 ≤ mc) (hks : ks + 0 ≤ ms) : ∀ (r k : Nat) (c10_3 : Nat) (oa_10 : Nat → Int32) (ob_10 : Nat → Int32) (po_10 : Int32) (pp_10 : Nat) (hh : q_H) (spr_10 : z_Pr hh 207 pc pp_10 po_10 vb oa_10 ob_10) (stx_10 : z_Sb hh 211 cn f v) (pH : q_same h hh 207 4) (hk_10 : k + r = 11) (hn_c10_3 : c10_3 ≤ 60) (K : ∀ (r10_0 : Nat) (r10_1 : Nat → Int32) (r10_2 : Nat → Int32) (r10_3 : Int32) (r10_4 : Nat), x_pr_readCommand_10 pc pp vb cn f r k c10_3 oa_10 ob_10 po_10 pp_10 = .inl (r10_0, r10_1, r10_2, r10_3, r10_4) → r10_0 ≤ 60 → ∀ h2, z_Pr h2 207 pc r10_4 r10_3 vb r10_1 r10_2 → z_Sb h2 211 cn f v → q_same h h2 207 4 → q_W g mX7_readCommand d mc ms Q kc ks 69 [.ref (207), q_u, q_u, .int (nI (r10_0)), q_u] [] h2) (K2 : ∀ z, x_pr_readCommand_10 pc pp vb cn f r k c10_3 oa_10 ob_10 po_10 pp_10 = .inr z → ∀ o h1, q_chg (.inl (some (.int (z_b z.1)))) (fun h1 => z_Pr h1 207 pc z.2.1 z.2.2.1 z.2.2.2.1 z.2.2.2.2.1 z.2.2.2.2.2 ∧ z_Sb h1 211 cn f v ∧ q_same h h1 207 4) o h1 → Q o h1), q_W g mX7_readCommand d mc ms Q kc ks 10 [.ref (207), .ref (211), .int (nI (pp)), .int (nI (c10_3)), .int (nI (k))] [] hh := by
  intro r
  induction r with
  | zero =>
    intro k c10_3 oa_10 ob_10 po_10 pp_10 hh spr_10 stx_10 pH hk_10 hn_c10_3 K K2
    have hb_pr_pc := spr_10.bpc
    have hb_pr_pp := spr_10.bpp
    have hb_tx_cn := stx_10.bcn
    refine q_iload dX7_readCommand_10 rfl ?_
    refine q_getstaticN (v := .ref (2)) (by simp [q_zs]) kN_X7_45 rfl dX7_readCommand_12 ?_
    change q_W _ _ _ _ _ _ _ _ 15 [.ref (207), .ref (211), .int (nI (pp)), .int (nI (c10_3)), .int (nI (k))] [.ref (2), .int (nI (k))] _
    refine q_tlen (i := 2) (n := 11) (f := fun j => .ref (3 + j)) (by decide) dX7_readCommand_15 rfl ?_
    change q_W _ _ _ _ _ _ _ _ 16 [.ref (207), .ref (211), .int (nI (pp)), .int (nI (c10_3)), .int (nI (k))] [.int (11), .int (nI (k))] _
    refine q_icmp_ge 69 dX7_readCommand_16 (by decide) (fun b16 => ?_) (fun b16 => ?_)
    · have b16 := (nI_leI (a := 11) (b := k) (by omega) (by omega)).mp b16
      refine q_forget 1 ?_
      refine q_forget 2 ?_
      refine q_forget 4 ?_
      change q_W _ _ _ _ _ _ _ _ _ [.ref (207), q_u, q_u, .int (nI (c10_3)), q_u] [] _
      exact K c10_3 oa_10 ob_10 po_10 pp_10 (by simp only [x_pr_readCommand_10]) (by omega) hh spr_10 stx_10 pH
    · have b16 : ¬ (11 ≤ k) := fun q => b16 ((nI_leI (a := 11) (b := k) (by omega) (by omega)).mpr q)
      exact absurd b16 (by omega)
  | succ r ih =>
    intro k c10_3 oa_10 ob_10 po_10 pp_10 hh spr_10 stx_10 pH hk_10 hn_c10_3 K K2
    have hb_pr_pc := spr_10.bpc
    have hb_pr_pp := spr_10.bpp
    have hb_tx_cn := stx_10.bcn
    refine q_iload dX7_readCommand_10 rfl ?_
    refine q_getstaticN (v := .ref (2)) (by simp [q_zs]) kN_X7_45 rfl dX7_readCommand_12 ?_
    change q_W _ _ _ _ _ _ _ _ 15 [.ref (207), .ref (211), .int (nI (pp)), .int (nI (c10_3)), .int (nI (k))] [.ref (2), .int (nI (k))] _
    refine q_tlen (i := 2) (n := 11) (f := fun j => .ref (3 + j)) (by decide) dX7_readCommand_15 rfl ?_
    change q_W _ _ _ _ _ _ _ _ 16 [.ref (207), .ref (211), .int (nI (pp)), .int (nI (c10_3)), .int (nI (k))] [.int (11), .int (nI (k))] _
    refine q_icmp_ge 69 dX7_readCommand_16 (by decide) (fun b16 => ?_) (fun b16 => ?_)
    · have b16 := (nI_leI (a := 11) (b := k) (by omega) (by omega)).mp b16
      exact absurd b16 (by omega)
    · have b16 : ¬ (11 ≤ k) := fun q => b16 ((nI_leI (a := 11) (b := k) (by omega) (by omega)).mpr q)
      refine q_aload_n (by first | assumption | omega | decide) dX7_readCommand_19 rfl ?_
      refine q_iload_n dX7_readCommand_20 rfl ?_
      refine q_putf (k := 4) kC_X7 kL_X7_25 rfl (by decide) rfl dX7_readCommand_21 spr_10.c0 (Nat.le_of_ble_eq_true rfl) ⟨rfl, rfl⟩ rfl ?_
      refine z_genW (B := fun H => z_Pr H 207 pc pp po_10 vb oa_10 ob_10 ∧ z_Sb H 211 cn f v ∧ q_same h H 207 4) ⟨z_Pr.put0 spr_10 (pc' := pc) (pp' := pp) (hbpc := by omega) (hbpp := by omega), stx_10.keep (q_same.set (a := 207) (k := 1) (Nat.le_refl _) (by omega)) (by omega), pH.trans (q_same.set (by omega) (by omega))⟩ (fun h1 hB => ?_)
      obtain ⟨spr1, stx1, p1⟩ := hB
      have hb_pr_pc := spr1.bpc
      have hb_pr_pp := spr1.bpp
      refine q_aload_n (by first | assumption | omega | decide) dX7_readCommand_24 rfl ?_
      refine q_aload_n (by first | assumption | omega | decide) dX7_readCommand_25 rfl ?_
      refine q_getstaticN (v := .ref (2)) (by simp [q_zs]) kN_X7_45 rfl dX7_readCommand_26 ?_
      change q_W _ _ _ _ _ _ _ _ 29 [.ref (207), .ref (211), .int (nI (pp)), .int (nI (c10_3)), .int (nI (k))] [.ref (2), .ref (211), .ref (207)] _
      refine q_iload dX7_readCommand_29 rfl ?_
      refine q_taldAN (i := 2) (n := 11) (f := fun j => .ref (3 + j)) (j := k) (by decide) dX7_readCommand_31 rfl (by omega) (by decide) ?_
      change q_W _ _ _ _ _ _ _ _ 32 [.ref (207), .ref (211), .int (nI (pp)), .int (nI (c10_3)), .int (nI (k))] [.ref (3 + k), .ref (211), .ref (207)] _
      refine q_getoldN (i := 3 + k) (v := .ref (14 + k)) (by unfold q_R0; omega) kN_X7_49 rfl (q_patternF (k := k) (by omega)) dX7_readCommand_32 ?_
      change q_W _ _ _ _ _ _ _ _ 35 [.ref (207), .ref (211), .int (nI (pp)), .int (nI (c10_3)), .int (nI (k))] [.ref (14 + k), .ref (211), .ref (207)] _
      rcases x2 : x_pr_readPattern pc pp oa_10 ob_10 cn f k with ⟨v2, y2_pp, y2_po, y2_oa, y2_ob⟩
      have e9 := e_pr_readPattern (g := g) (h := h1) (d := d - 1) spr1 stx1 k (by omega) (by omega) (by omega) (by omega) (z_patlen _) (by omega)
      rw [x2] at e9
      refine q_invV (mc' := 0) (ms' := 0) (d' := d - 1) (as := [.ref (211), .ref (14 + k)]) dX7_readCommand_35 kM_X7_readPattern kL_X7_55 kI_X7_readPattern kS_X7_readPattern rfl (kC_X7.1) spr1.c0 rfl rfl (Nat.le_of_ble_eq_true rfl) (by omega) (by decide) (by omega) (by omega) (e9) (q_kC (fun h3 hB => ?_)) q_xC
      obtain ⟨t3_0, t3_1, pp3⟩ := hB
      have spr3 := t3_0
      have stx3 := t3_1
      have p3 := p1.trans (pp3.wide (by omega) (by omega))
      have hb_pr_pc := spr3.bpc
      have hb_pr_pp : y2_pp ≤ 60 := spr3.bpp
      change q_W _ _ _ _ _ _ _ _ 38 [.ref (207), .ref (211), .int (nI (pp)), .int (nI (c10_3)), .int (nI (k))] [.int (z_b (v2))] _
      refine q_if_eq 54 dX7_readCommand_38 (by decide) (fun b38 => ?_) (fun b38 => ?_)
      · have b38 := z_b0n b38
        refine q_iload_n dX7_readCommand_54 rfl ?_
        refine q_aload_n (by first | assumption | omega | decide) dX7_readCommand_55 rfl ?_
        refine q_getf (k := 4) (v := .int (nI (y2_pp))) kC_X7 kL_X7_25 rfl (by decide) dX7_readCommand_56 spr3.c0 rfl ?_
        refine q_mmax kL_X7_59 kT_J9_max_7cf53 (kM_J9_max_7cf53.2.2.2.1) rfl dX7_readCommand_59 (Nat.le_of_ble_eq_true rfl) (by omega) (by omega) (by omega) ?_
        rw [z_nite (by omega) (by omega)]
        change q_W _ _ _ _ _ _ _ _ _ [.ref (207), .ref (211), .int (nI (pp)), .int (nI (c10_3)), .int (nI (k))] [.int (nI ((if c10_3 < y2_pp then y2_pp else c10_3)))] _
        refine q_istore_n dX7_readCommand_62 (by decide) rfl ?_
        change q_W _ _ _ _ _ _ _ _ _ [.ref (207), .ref (211), .int (nI (pp)), .int (nI ((if c10_3 < y2_pp then y2_pp else c10_3))), .int (nI (k))] [] _
        refine q_iinc (x := nI (k)) (v := nI (k + 1)) dX7_readCommand_63 rfl (nI_add _ 1) rfl ?_
        change q_W _ _ _ _ _ _ _ _ _ [.ref (207), .ref (211), .int (nI (pp)), .int (nI ((if c10_3 < y2_pp then y2_pp else c10_3))), .int (nI (k + 1))] [] _
        refine q_goto 10 dX7_readCommand_66 (by decide) ?_
        change q_W _ _ _ _ _ _ _ _ _ [.ref (207), .ref (211), .int (nI (pp)), .int (nI ((if c10_3 < y2_pp then y2_pp else c10_3))), .int (nI (k + 1))] [] _
        exact ih (k + 1) (if c10_3 < y2_pp then y2_pp else c10_3) y2_oa y2_ob y2_po y2_pp h3 spr3 stx3 p3 (by omega) (by first | omega | (split <;> omega)) (fun r10_0 r10_1 r10_2 r10_3 r10_4 e9 => K r10_0 r10_1 r10_2 r10_3 r10_4 (by simp only [x_pr_readCommand_10, x2, if_neg b38]; exact e9)) (fun z9 e9 => K2 z9 (by simp only [x_pr_readCommand_10, x2, if_neg b38]; exact e9))
      · have b38 := z_b1 b38
        refine q_aload_n (by first | assumption | omega | decide) dX7_readCommand_41 rfl ?_
        refine q_getf (k := 0) (v := .ref (208)) kC_X7 kL_X7_11 rfl (by decide) dX7_readCommand_42 spr3.c0 rfl ?_
        refine q_aload_n (by first | assumption | omega | decide) dX7_readCommand_45 rfl ?_
        refine q_getf (k := 3) (v := .int (nI (pc))) kC_X7 kL_X7_21 rfl (by decide) dX7_readCommand_46 spr3.c0 rfl ?_
        refine q_iload dX7_readCommand_49 rfl ?_
        refine q_iastN (j := pc) dX7_readCommand_51 spr3.c1 (by omega) (by decide) ?_
        refine z_genW (B := fun H => z_Pr H 207 pc y2_pp y2_po (upd vb pc (nI (k))) y2_oa y2_ob ∧ z_Sb H 211 cn f v ∧ q_same h H 207 4) ⟨z_Pr.put1 spr3, stx3.keep (q_same.set (a := 208) (k := 1) (Nat.le_refl _) (by omega)) (by omega), p3.trans (q_same.set (by omega) (by omega))⟩ (fun h4 hB => ?_)
        obtain ⟨spr4, stx4, p4⟩ := hB
        have hb_pr_pc := spr4.bpc
        have hb_pr_pp : y2_pp ≤ 60 := spr4.bpp
        refine q_iconst (v := 1) dX7_readCommand_52 rfl ?_
        exact q_ireturn dX7_readCommand_53 rfl rfl (by omega) (by omega) (K2 (true, y2_pp, y2_po, upd vb pc (nI (k)), y2_oa, y2_ob) (by simp only [x_pr_readCommand_10, x2, if_pos b38]) _ _ ⟨rfl, spr4, stx4, p4⟩)
def x_pr_readCommand (pc : Nat) (pp : Nat) (po : Int32) (vb : Nat → Int32) (oa : Nat → Int32) (ob : Nat → Int32) (cn : Nat) (f : Nat → Int32) : (Bool) × (Nat) × (Int32) × (Nat → Int32) × (Nat → Int32) × (Nat → Int32) := (match x_pr_readCommand_10 pc pp vb cn f 11 0 pp oa ob po pp with | .inl (a5_0, a5_1, a5_2, a5_3, a5_4) => (false, a5_0, a5_3, vb, a5_1, a5_2) | .inr zz => zz)
set_option maxRecDepth 100000 in
set_option maxHeartbeats 8000000 in
theorem e_pr_readCommand {g : q_G} {h : q_H} {d : Nat} {pc : Nat} {pp : Nat} {po : Int32} {vb : Nat → Int32} {oa : Nat → Int32} {ob : Nat → Int32} (spr : z_Pr h 207 pc pp po vb oa ob) {cn : Nat} {f : Nat → Int32} {v : Nat} (stx : z_Sb h 211 cn f v)   (hcn : cn ≤ 60) (hv : v = 212 ∨ 225 ≤ v) (hpc : pc < 16)  (hd : 7 ≤ d) : q_Spec g mX7_readCommand d 0 0 [.ref (207), .ref (211)] h (q_chg (.inl (some (.int (z_b (x_pr_readCommand pc pp po vb oa ob cn f).1)))) (fun h1 => z_Pr h1 207 pc ((x_pr_readCommand pc pp po vb oa ob cn f).2.1) ((x_pr_readCommand pc pp po vb oa ob cn f).2.2.1) ((x_pr_readCommand pc pp po vb oa ob cn f).2.2.2.1) ((x_pr_readCommand pc pp po vb oa ob cn f).2.2.2.2.1) ((x_pr_readCommand pc pp po vb oa ob cn f).2.2.2.2.2) ∧ z_Sb h1 211 cn f v ∧ q_same h h1 207 4)) := by
  have hb_pr_pc := spr.bpc
  have hb_pr_pp := spr.bpp
  have hb_tx_cn := stx.bcn
  have ho_pr_pc := spr.bpc
  have ho_pr_pp := spr.bpp
  have ho_tx_cn := stx.bcn
  have p0 : q_same h h 207 4 := q_same.rfl'
  refine q_enter (by decide +kernel) rfl rfl (Nat.le_of_ble_eq_true rfl) (fun hz => ?_)
  change q_W _ _ _ _ _ _ _ _ _ [.ref (207), .ref (211), q_u, q_u, q_u] [] _
  refine q_aload_n (by first | assumption | omega | decide) dX7_readCommand_0 rfl ?_
  refine q_getf (k := 4) (v := .int (nI (pp))) kC_X7 kL_X7_25 rfl (by decide) dX7_readCommand_1 spr.c0 rfl ?_
  refine q_istore_n dX7_readCommand_4 (by decide) rfl ?_
  change q_W _ _ _ _ _ _ _ _ _ [.ref (207), .ref (211), .int (nI (pp)), q_u, q_u] [] _
  refine q_iload_n dX7_readCommand_5 rfl ?_
  refine q_istore_n dX7_readCommand_6 (by decide) rfl ?_
  change q_W _ _ _ _ _ _ _ _ _ [.ref (207), .ref (211), .int (nI (pp)), .int (nI (pp)), q_u] [] _
  refine q_iconst (v := 0) dX7_readCommand_7 rfl ?_
  refine q_istore dX7_readCommand_8 (by decide) rfl ?_
  change q_W _ _ _ _ _ _ _ _ _ [.ref (207), .ref (211), .int (nI (pp)), .int (nI (pp)), .int (0)] [] _
  change q_W _ _ _ _ _ _ _ _ _ [.ref (207), .ref (211), .int (nI (pp)), .int (nI (pp)), .int (0)] [] _
  refine l_pr_readCommand_10 hcn hv hpc ho_pr_pc ho_pr_pp ho_tx_cn (by omega) (by omega) (by omega) 11 0 pp oa ob po pp h spr stx p0 (by omega) (by omega) (fun a5_0 a5_1 a5_2 a5_3 a5_4 x5 hq5_0 h6 spr6 stx6 p6 => ?_) (fun zz x5 => ?_)
  · have hb_pr_pc := spr6.bpc
    have hb_pr_pp := spr6.bpp
    change q_W _ _ _ _ _ _ _ _ 69 [.ref (207), q_u, q_u, .int (nI (a5_0)), q_u] [] _
    refine q_aload_n (by first | assumption | omega | decide) dX7_readCommand_69 rfl ?_
    refine q_iload_n dX7_readCommand_70 rfl ?_
    refine q_putf (k := 4) kC_X7 kL_X7_25 rfl (by decide) rfl dX7_readCommand_71 spr6.c0 (Nat.le_of_ble_eq_true rfl) ⟨rfl, rfl⟩ rfl ?_
    refine z_genW (B := fun H => z_Pr H 207 pc a5_0 a5_3 vb a5_1 a5_2 ∧ z_Sb H 211 cn f v ∧ q_same h H 207 4) ⟨z_Pr.put0 spr6 (pc' := pc) (pp' := a5_0) (hbpc := by omega) (hbpp := by omega), stx6.keep (q_same.set (a := 207) (k := 1) (Nat.le_refl _) (by omega)) (by omega), p6.trans (q_same.set (by omega) (by omega))⟩ (fun h7 hB => ?_)
    obtain ⟨spr7, stx7, p7⟩ := hB
    have hb_pr_pc := spr7.bpc
    have hb_pr_pp := spr7.bpp
    refine q_iconst (v := 0) dX7_readCommand_74 rfl ?_
    have hE : x_pr_readCommand pc pp po vb oa ob cn f = (false, a5_0, a5_3, vb, a5_1, a5_2) := by simp only [x_pr_readCommand, x5]
    rw [hE]
    exact q_ireturn dX7_readCommand_75 rfl rfl (by omega) (by omega) ⟨rfl, spr7, stx7, p7⟩
  · have hE : x_pr_readCommand pc pp po vb oa ob cn f = zz := by simp only [x_pr_readCommand, x5]
    rw [hE]
    exact fun _ _ q9 => q9