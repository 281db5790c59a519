theorem z_Sb.r0 {h : q_H} {b cn v : Nat} {f : Nat → Int32} (s : z_Sb h b cn f v) : q_R0 ≤ b := by
  obtain ⟨ml, cap, bs, s1, -⟩ := s
  exact s1.r0
theorem z_Sb.bcn {h : q_H} {b cn v : Nat} {f : Nat → Int32} (s : z_Sb h b cn f v) : cn ≤ 286 := by
  obtain ⟨ml, cap, bs, s1, -⟩ := s
  exact s1.bcn
theorem z_Sb.lat {h : q_H} {b cn v : Nat} {f : Nat → Int32} (s : z_Sb h b cn f v) {j : Nat} (hj : j < cn) : z_lat (f j) := by
  obtain ⟨ml, cap, bs, s1, s2, hbv, h16, hcc, hnar, hf⟩ := s
  exact (hf j hj).1
theorem z_Sb.cell {h : q_H} {b cn v : Nat} {f : Nat → Int32} (s : z_Sb h b cn f v) : ∃ fs, h.2 b = some (.inr (1, fs)) := by
  obtain ⟨ml, cap, bs, s1, -⟩ := s
  exact ⟨_, s1.c0⟩
theorem z_Sb.keep {h h1 : q_H} {b cn v b1 k1 : Nat} {f : Nat → Int32} (s : z_Sb h b cn f v) (q : q_same h h1 b1 k1) (hx : (b + 1 ≤ b1 ∨ b1 + k1 ≤ b) ∧ (v + 1 ≤ b1 ∨ b1 + k1 ≤ v)) : z_Sb h1 b cn f v := by
  obtain ⟨ml, cap, bs, s1, s2, r⟩ := s
  exact ⟨ml, cap, bs, s1.keep q hx.1, s2.keep q hx.2, r⟩
def x_J0_coder  : Nat := 0
set_option maxRecDepth 100000 in
set_option maxHeartbeats 8000000 in
theorem e_J0_coder {g : q_G} {h : q_H} {d : Nat}   (k : Nat) (hk : k < 11)  (hd : 0 ≤ d) : q_Spec g mJ0_coder_7d493 d 0 0 [.ref (14 + k)] h (q_ret ((some (.int (nI x_J0_coder)))) h) := by
  refine q_enter (by decide +kernel) rfl rfl (Nat.le_of_ble_eq_true rfl) (fun hz => ?_)
  change q_W _ _ _ _ _ _ _ _ _ [.ref (14 + k)] [] _
  refine q_getstatic (v := .int (1)) (by simp [q_zs]) kL_J0_38 rfl dJ0_coder_7d493_0 ?_
  change q_W _ _ _ _ _ _ _ _ 3 [.ref (14 + k)] [.int (1)] _
  refine q_if_eq 13 dJ0_coder_7d493_3 (by decide) (fun b3 => ?_) (fun b3 => ?_)
  · exact absurd b3 (by decide)
  · refine q_aload_nK (by omega) dJ0_coder_7d493_6 rfl ?_
    refine q_getold (i := 14 + k) (v := .int (0)) (by unfold q_R0; omega) kL_J0_15 rfl (q_coderF (k := k) (by omega)) dJ0_coder_7d493_7 ?_
    change q_W _ _ _ _ _ _ _ _ 10 [.ref (14 + k)] [.int (0)] _
    refine q_goto 14 dJ0_coder_7d493_10 (by decide) ?_
    have hE : x_J0_coder  = 0 := by simp only [x_J0_coder]
    rw [hE]
    exact q_ireturn dJ0_coder_7d493_14 rfl rfl (by omega) (by omega) ⟨rfl, rfl⟩
def x_J0_isLatin1  : Bool := true
set_option maxRecDepth 100000 in
set_option maxHeartbeats 8000000 in
theorem e_J0_isLatin1 {g : q_G} {h : q_H} {d : Nat}   (k : Nat) (hk : k < 11)  (hd : 0 ≤ d) : q_Spec g mJ0_isLatin1_aae02 d 0 0 [.ref (14 + k)] h (q_ret ((some (.int (z_b x_J0_isLatin1)))) h) := by
  refine q_enter (by decide +kernel) rfl rfl (Nat.le_of_ble_eq_true rfl) (fun hz => ?_)
  change q_W _ _ _ _ _ _ _ _ _ [.ref (14 + k)] [] _
  refine q_getstatic (v := .int (1)) (by simp [q_zs]) kL_J0_38 rfl dJ0_isLatin1_aae02_0 ?_
  change q_W _ _ _ _ _ _ _ _ 3 [.ref (14 + k)] [.int (1)] _
  refine q_if_eq 17 dJ0_isLatin1_aae02_3 (by decide) (fun b3 => ?_) (fun b3 => ?_)
  · exact absurd b3 (by decide)
  · refine q_aload_nK (by omega) dJ0_isLatin1_aae02_6 rfl ?_
    refine q_getold (i := 14 + k) (v := .int (0)) (by unfold q_R0; omega) kL_J0_15 rfl (q_coderF (k := k) (by omega)) dJ0_isLatin1_aae02_7 ?_
    change q_W _ _ _ _ _ _ _ _ 10 [.ref (14 + k)] [.int (0)] _
    refine q_if_ne 17 dJ0_isLatin1_aae02_10 (by decide) (fun b10 => ?_) (fun b10 => ?_)
    · exact absurd (by decide) b10
    · refine q_iconst (v := 1) dJ0_isLatin1_aae02_13 rfl ?_
      refine q_goto 18 dJ0_isLatin1_aae02_14 (by decide) ?_
      have hE : x_J0_isLatin1  = true := by simp only [x_J0_isLatin1]
      rw [hE]
      exact q_ireturn dJ0_isLatin1_aae02_18 rfl rfl (by omega) (by omega) ⟨rfl, rfl⟩
def x_J0_length (k : Nat) : Nat := (q_pat k).length
set_option maxRecDepth 100000 in
set_option maxHeartbeats 8000000 in
theorem e_J0_length {g : q_G} {h : q_H} {d : Nat}   (k : Nat) (hk : k < 11)  (hd : 1 ≤ d) : q_Spec g mJ0_length_8abf5 d 0 0 [.ref (14 + k)] h (q_ret ((some (.int (nI (x_J0_length k))))) h) := by
  refine q_enter (by decide +kernel) rfl rfl (Nat.le_of_ble_eq_true rfl) (fun hz => ?_)
  change q_W _ _ _ _ _ _ _ _ _ [.ref (14 + k)] [] _
  refine q_aload_nK (by omega) dJ0_length_8abf5_0 rfl ?_
  refine q_getold (i := 14 + k) (v := .ref (25 + k)) (by unfold q_R0; omega) kL_J0_9 rfl (q_valueF (k := k) (by omega)) dJ0_length_8abf5_1 ?_
  change q_W _ _ _ _ _ _ _ _ 4 [.ref (14 + k)] [.ref (25 + k)] _
  refine q_tlenP (k := k) (by omega) dJ0_length_8abf5_4 ?_
  change q_W _ _ _ _ _ _ _ _ 5 [.ref (14 + k)] [.int (nI ((q_pat k).length))] _
  refine q_aload_nK (by omega) dJ0_length_8abf5_5 rfl ?_
  refine q_invVO (C := RJ0) (i := 14 + k) (mc' := 0) (ms' := 0) (d' := d - 1) (as := []) dJ0_length_8abf5_6 kM_J0_coder_7d493 kL_J0_335 kI_J0_coder_7d493 kS_J0_coder_7d493 rfl (by unfold q_R0; omega) (q_patO (by omega)) rfl rfl (Nat.le_of_ble_eq_true rfl) (by omega) (by decide) (by omega) (by omega) (e_J0_coder (d := d - 1) k (by omega) (by omega)) (q_kR ?_) q_xR
  change q_W _ _ _ _ _ _ _ _ 9 [.ref (14 + k)] [.int (0), .int (nI ((q_pat k).length))] _
  refine q_ishr0 dJ0_length_8abf5_9 ?_
  have hE : x_J0_length k = (q_pat k).length := by simp only [x_J0_length]
  rw [hE]
  exact q_ireturn dJ0_length_8abf5_10 rfl rfl (by omega) (by omega) ⟨rfl, rfl⟩
def x_J1_charAt (k : Nat) (j : Nat) : Int32 := ((((q_pat k).getD j 0) &&& (255 : Int32)).toUInt32 % 65536).toInt32
set_option maxRecDepth 100000 in
set_option maxHeartbeats 8000000 in
theorem e_J1_charAt {g : q_G} {h : q_H} {d : Nat}   (k : Nat) (j : Nat) (hk : k < 11) (hpl : (q_pat k).length ≤ 10) (hj : j < (q_pat k).length)  (hd : 2 ≤ d) : q_Spec g mJ1_charAt_3b067 d 0 0 [.ref (25 + k), .int (nI (j))] h (q_ret ((some (.int (x_J1_charAt k j)))) h) := by
  refine q_enter (by decide +kernel) rfl rfl (Nat.le_of_ble_eq_true rfl) (fun hz => ?_)
  change q_W _ _ _ _ _ _ _ _ _ [.ref (25 + k), .int (nI (j))] [] _
  refine q_iload_n dJ1_charAt_3b067_0 rfl ?_
  refine q_aload_nK (by omega) dJ1_charAt_3b067_1 rfl ?_
  refine q_tlenP (k := k) (by omega) dJ1_charAt_3b067_2 ?_
  change q_W _ _ _ _ _ _ _ _ 3 [.ref (25 + k), .int (nI (j))] [.int (nI ((q_pat k).length)), .int (nI (j))] _
  refine q_invS (mc' := 0) (ms' := 0) (d' := d - 1) (as := [.int (nI (j)), .int (nI ((q_pat k).length))]) dJ1_charAt_3b067_3 kM_J0_checkIndex_df160 kL_J1_9 kT_J0_checkIndex_df160 rfl rfl rfl (Nat.le_of_ble_eq_true rfl) (by omega) (by decide) (by omega) (by omega) (e_chk0 (d := d - 1) (i := j) (n := (q_pat k).length) (by omega) (by omega) (by omega)) (q_kR ?_) q_xR
  change q_W _ _ _ _ _ _ _ _ 6 [.ref (25 + k), .int (nI (j))] [] _
  refine q_aload_nK (by omega) dJ1_charAt_3b067_6 rfl ?_
  refine q_iload_n dJ1_charAt_3b067_7 rfl ?_
  refine q_taldP (k := k) (j := j) (by omega) dJ1_charAt_3b067_8 (by omega) ?_
  change q_W _ _ _ _ _ _ _ _ 9 [.ref (25 + k), .int (nI (j))] [.int ((q_pat k).getD j 0)] _
  refine q_sipush (v := 255) dJ1_charAt_3b067_9 rfl ?_
  refine q_iand dJ1_charAt_3b067_12 ?_
  refine q_i2c dJ1_charAt_3b067_13 rfl ?_
  have hE : x_J1_charAt k j = ((((q_pat k).getD j 0) &&& (255 : Int32)).toUInt32 % 65536).toInt32 := by simp only [x_J1_charAt]
  rw [hE]
  exact q_ireturn dJ1_charAt_3b067_14 rfl (pk_nc _) (by omega) (by omega) ⟨rfl, rfl⟩
def x_J0_charAt (k : Nat) (j : Nat) : Int32 := x_J1_charAt k j
set_option maxRecDepth 100000 in
set_option maxHeartbeats 8000000 in
theorem e_J0_charAt {g : q_G} {h : q_H} {d : Nat}   (k : Nat) (j : Nat) (hk : k < 11) (hpl : (q_pat k).length ≤ 10) (hj : j < (q_pat k).length)  (hd : 3 ≤ d) : q_Spec g mJ0_charAt_5068e d 0 0 [.ref (14 + k), .int (nI (j))] h (q_ret ((some (.int (x_J0_charAt k j)))) h) := by
  refine q_enter (by decide +kernel) rfl rfl (Nat.le_of_ble_eq_true rfl) (fun hz => ?_)
  change q_W _ _ _ _ _ _ _ _ _ [.ref (14 + k), .int (nI (j))] [] _
  refine q_aload_nK (by omega) dJ0_charAt_5068e_0 rfl ?_
  refine q_invVO (C := RJ0) (i := 14 + k) (mc' := 0) (ms' := 0) (d' := d - 1) (as := []) dJ0_charAt_5068e_1 kM_J0_isLatin1_aae02 kL_J0_492 kI_J0_isLatin1_aae02 kS_J0_isLatin1_aae02 rfl (by unfold q_R0; omega) (q_patO (by omega)) rfl rfl (Nat.le_of_ble_eq_true rfl) (by omega) (by decide) (by omega) (by omega) (e_J0_isLatin1 (d := d - 1) k (by omega) (by omega)) (q_kR ?_) q_xR
  change q_W _ _ _ _ _ _ _ _ 4 [.ref (14 + k), .int (nI (j))] [.int (1)] _
  refine q_if_eq 16 dJ0_charAt_5068e_4 (by decide) (fun b4 => ?_) (fun b4 => ?_)
  · exact absurd b4 (by decide)
  · refine q_aload_nK (by omega) dJ0_charAt_5068e_7 rfl ?_
    refine q_getold (i := 14 + k) (v := .ref (25 + k)) (by unfold q_R0; omega) kL_J0_9 rfl (q_valueF (k := k) (by omega)) dJ0_charAt_5068e_8 ?_
    change q_W _ _ _ _ _ _ _ _ 11 [.ref (14 + k), .int (nI (j))] [.ref (25 + k)] _
    refine q_iload_n dJ0_charAt_5068e_11 rfl ?_
    refine q_invS (mc' := 0) (ms' := 0) (d' := d - 1) (as := [.ref (25 + k), .int (nI (j))]) dJ0_charAt_5068e_12 kM_J1_charAt_3b067 kL_J0_495 kT_J1_charAt_3b067 rfl rfl rfl (Nat.le_of_ble_eq_true rfl) (by omega) (by decide) (by omega) (by omega) (e_J1_charAt (d := d - 1) k j (by omega) (z_patlen _) (by omega) (by omega)) (q_kR ?_) q_xR
    change q_W _ _ _ _ _ _ _ _ 15 [.ref (14 + k), .int (nI (j))] [.int (x_J1_charAt k j)] _
    have hE : x_J0_charAt k j = x_J1_charAt k j := by simp only [x_J0_charAt]
    rw [hE]
    exact q_ireturn dJ0_charAt_5068e_15 rfl (by unfold x_J1_charAt; exact pk_nc _) (by omega) (by omega) ⟨rfl, rfl⟩
def z_Pr (h : q_H) (b : Nat) (pc : Nat) (pp : Nat) (po : Int32) (vb : Nat → Int32) (oa : Nat → Int32) (ob : Nat → Int32) : Prop :=
  q_R0 ≤ b ∧
  b + 4 ≤ h.1 ∧
  pc ≤ 16 ∧
  pp ≤ 60 ∧
  h.2 (b) = some (.inr (9, [.ref (b + 1), .ref (b + 2), .ref (b + 3), .int (nI (pc)), .int (nI (pp)), .int (po)])) ∧
  h.2 (b + 1) = some (.inl (0, 16, .inl (vb))) ∧
  h.2 (b + 2) = some (.inl (0, 16, .inl (oa))) ∧
  h.2 (b + 3) = some (.inl (0, 16, .inl (ob)))
theorem z_Pr.r0 {h : q_H} {b : Nat} {pc : Nat} {pp : Nat} {po : Int32} {vb : Nat → Int32} {oa : Nat → Int32} {ob : Nat → Int32} (s : z_Pr h b pc pp po vb oa ob) : q_R0 ≤ b := s.1
theorem z_Pr.s0 {h : q_H} {b : Nat} {pc : Nat} {pp : Nat} {po : Int32} {vb : Nat → Int32} {oa : Nat → Int32} {ob : Nat → Int32} (s : z_Pr h b pc pp po vb oa ob) : b + 4 ≤ h.1 := s.2.1
theorem z_Pr.bpc {h : q_H} {b : Nat} {pc : Nat} {pp : Nat} {po : Int32} {vb : Nat → Int32} {oa : Nat → Int32} {ob : Nat → Int32} (s : z_Pr h b pc pp po vb oa ob) : pc ≤ 16 := s.2.2.1
theorem z_Pr.bpp {h : q_H} {b : Nat} {pc : Nat} {pp : Nat} {po : Int32} {vb : Nat → Int32} {oa : Nat → Int32} {ob : Nat → Int32} (s : z_Pr h b pc pp po vb oa ob) : pp ≤ 60 := s.2.2.2.1
theorem z_Pr.c0 {h : q_H} {b : Nat} {pc : Nat} {pp : Nat} {po : Int32} {vb : Nat → Int32} {oa : Nat → Int32} {ob : Nat → Int32} (s : z_Pr h b pc pp po vb oa ob) : h.2 (b) = some (.inr (9, [.ref (b + 1), .ref (b + 2), .ref (b + 3), .int (nI (pc)), .int (nI (pp)), .int (po)])) := s.2.2.2.2.1
theorem z_Pr.c1 {h : q_H} {b : Nat} {pc : Nat} {pp : Nat} {po : Int32} {vb : Nat → Int32} {oa : Nat → Int32} {ob : Nat → Int32} (s : z_Pr h b pc pp po vb oa ob) : h.2 (b + 1) = some (.inl (0, 16, .inl (vb))) := s.2.2.2.2.2.1
theorem z_Pr.c2 {h : q_H} {b : Nat} {pc : Nat} {pp : Nat} {po : Int32} {vb : Nat → Int32} {oa : Nat → Int32} {ob : Nat → Int32} (s : z_Pr h b pc pp po vb oa ob) : h.2 (b + 2) = some (.inl (0, 16, .inl (oa))) := s.2.2.2.2.2.2.1
theorem z_Pr.c3 {h : q_H} {b : Nat} {pc : Nat} {pp : Nat} {po : Int32} {vb : Nat → Int32} {oa : Nat → Int32} {ob : Nat → Int32} (s : z_Pr h b pc pp po vb oa ob) : h.2 (b + 3) = some (.inl (0, 16, .inl (ob))) := s.2.2.2.2.2.2.2
theorem z_Pr.keep {h1 : q_H} {b1 k1 : Nat} {h : q_H} {b : Nat} {pc : Nat} {pp : Nat} {po : Int32} {vb : Nat → Int32} {oa : Nat → Int32} {ob : Nat → Int32} (s : z_Pr h b pc pp po vb oa ob) (q : q_same h h1 b1 k1) (hx : b + 4 ≤ b1 ∨ b1 + k1 ≤ b) : z_Pr h1 b pc pp po vb oa ob := by
  obtain ⟨w0, w1, w2, w3, w4, w5, w6, w7⟩ := s
  exact ⟨w0, Nat.le_trans w1 q.1, w2, w3, (q.2 _ (by omega) (by omega)).trans w4, (q.2 _ (by omega) (by omega)).trans w5, (q.2 _ (by omega) (by omega)).trans w6, (q.2 _ (by omega) (by omega)).trans w7⟩
theorem z_Pr.put0 {h : q_H} {b : Nat} {pc : Nat} {pp : Nat} {po : Int32} {vb : Nat → Int32} {oa : Nat → Int32} {ob : Nat → Int32} (s : z_Pr h b pc pp po vb oa ob) {pc' : Nat} {pp' : Nat} {po' : Int32} (hbpc : pc' ≤ 16) (hbpp : pp' ≤ 60)  : z_Pr (q_set h (b) (.inr (9, [.ref (b + 1), .ref (b + 2), .ref (b + 3), .int (nI (pc')), .int (nI (pp')), .int (po')]))) b pc' pp' po' vb oa ob := by
  obtain ⟨w0, w1, w2, w3, w4, w5, w6, w7⟩ := s
  exact ⟨w0, w1, hbpc, hbpp, q_set_eq, (q_set_ne (by omega)).trans w5, (q_set_ne (by omega)).trans w6, (q_set_ne (by omega)).trans w7⟩
theorem z_Pr.put1 {h : q_H} {b : Nat} {pc : Nat} {pp : Nat} {po : Int32} {vb : Nat → Int32} {oa : Nat → Int32} {ob : Nat → Int32} (s : z_Pr h b pc pp po vb oa ob) {vb' : Nat → Int32}   : z_Pr (q_set h (b + 1) (.inl (0, 16, .inl (vb')))) b pc pp po vb' oa ob := by
  obtain ⟨w0, w1, w2, w3, w4, w5, w6, w7⟩ := s
  exact ⟨w0, w1, w2, w3, (q_set_ne (by omega)).trans w4, q_set_eq, (q_set_ne (by omega)).trans w6, (q_set_ne (by omega)).trans w7⟩
theorem z_Pr.put2 {h : q_H} {b : Nat} {pc : Nat} {pp : Nat} {po : Int32} {vb : Nat → Int32} {oa : Nat → Int32} {ob : Nat → Int32} (s : z_Pr h b pc pp po vb oa ob) {oa' : Nat → Int32}   : z_Pr (q_set h (b + 2) (.inl (0, 16, .inl (oa')))) b pc pp po vb oa' ob := by
  obtain ⟨w0, w1, w2, w3, w4, w5, w6, w7⟩ := s
  exact ⟨w0, w1, w2, w3, (q_set_ne (by omega)).trans w4, (q_set_ne (by omega)).trans w5, q_set_eq, (q_set_ne (by omega)).trans w7⟩
theorem z_Pr.put3 {h : q_H} {b : Nat} {pc : Nat} {pp : Nat} {po : Int32} {vb : Nat → Int32} {oa : Nat → Int32} {ob : Nat → Int32} (s : z_Pr h b pc pp po vb oa ob) {ob' : Nat → Int32}   : z_Pr (q_set h (b + 3) (.inl (0, 16, .inl (ob')))) b pc pp po vb oa ob' := by
  obtain ⟨w0, w1, w2, w3, w4, w5, w6, w7⟩ := s
  exact ⟨w0, w1, w2, w3, (q_set_ne (by omega)).trans w4, (q_set_ne (by omega)).trans w5, (q_set_ne (by omega)).trans w6, q_set_eq⟩
def x_pr_isDigit (xc : Int32) : Bool := (if (xc) < (48) then false else (if (57 : Int32) < (xc) then false else true))
def x_pr_readCharacter (pp : Nat) (cn : Nat) (f : Nat → Int32) (xw : Int32) : (Bool) × (Nat) := (if cn ≤ pp then (false, pp) else (if (f pp) = (xw) then (true, pp + 1) else (false, pp)))
def x_pr_noteOperand (pc : Nat) (po : Int32) (oa : Nat → Int32) (ob : Nat → Int32) (xv : Int32) : (Int32) × (Nat → Int32) × (Nat → Int32) := (if (po) = (0) then (po + (1 : Int32), upd oa pc (xv), ob) else (po + (1 : Int32), oa, upd ob pc (xv)))
def x_pr_readNumber_5 (cn : Nat) (f : Nat → Int32) : Nat → Nat → (Int32) → (Nat) → (Int32) × (Nat) × (Nat)
  | 0, k, c5_3, pp_5 => (c5_3, k, pp_5)
  | r + 1, k, c5_3, pp_5 => (if cn ≤ pp_5 then (c5_3, k, pp_5) else (if x_pr_isDigit (f pp_5) then x_pr_readNumber_5 cn f r (k + 1) ((c5_3 * (10 : Int32)) + ((f pp_5) - (48 : Int32))) (pp_5 + 1) else (c5_3, k, pp_5)))
def x_pr_readNumber (pc : Nat) (pp : Nat) (po : Int32) (oa : Nat → Int32) (ob : Nat → Int32) (cn : Nat) (f : Nat → Int32) (m : Nat) : (Bool) × (Nat) × (Int32) × (Nat → Int32) × (Nat → Int32) := (match x_pr_readNumber_5 cn f m 0 0 pp with | (a2_0, a2_1, a2_2) => (if a2_1 = 0 then (false, a2_2, po, oa, ob) else (match x_pr_noteOperand pc po oa ob a2_0 with | (y4_po, y4_oa, y4_ob) => (true, a2_2, y4_po, y4_oa, y4_ob))))
def x_pr_readPart (pc : Nat) (pp : Nat) (po : Int32) (oa : Nat → Int32) (ob : Nat → Int32) (cn : Nat) (f : Nat → Int32) (xp : Int32) : (Bool) × (Nat) × (Int32) × (Nat → Int32) × (Nat → Int32) := (if (xp) = (35) then (match x_pr_readNumber pc pp po oa ob cn f 2 with | (v5, y5_pp, y5_po, y5_oa, y5_ob) => (v5, y5_pp, y5_po, y5_oa, y5_ob)) else (if (xp) = (63) then (match x_pr_readNumber pc pp po oa ob cn f 1 with | (v3, y3_pp, y3_po, y3_oa, y3_ob) => (v3, y3_pp, y3_po, y3_oa, y3_ob)) else (match x_pr_readCharacter pp cn f xp with | (v1, y1_pp) => (v1, y1_pp, po, oa, ob))))
def x_pr_readPattern_7 (pc : Nat) (cn : Nat) (f : Nat → Int32) (k : Nat) : Nat → Nat → (Nat → Int32) → (Nat → Int32) → (Int32) → (Nat) → ((Nat → Int32) × (Nat → Int32) × (Int32) × (Nat)) ⊕ ((Bool) × (Nat) × (Int32) × (Nat → Int32) × (Nat → Int32))
  | 0, _, oa_7, ob_7, po_7, pp_7 => .inl (oa_7, ob_7, po_7, pp_7)
  | r + 1, kk, oa_7, ob_7, po_7, pp_7 => (match x_pr_readPart pc pp_7 po_7 oa_7 ob_7 cn f (x_J0_charAt k kk) with | (v2, y2_pp, y2_po, y2_oa, y2_ob) => (if v2 then x_pr_readPattern_7 pc cn f k r (kk + 1) y2_oa y2_ob y2_po y2_pp else .inr (false, y2_pp, y2_po, y2_oa, y2_ob)))
def x_pr_readPattern (pc : Nat) (pp : Nat) (oa : Nat → Int32) (ob : Nat → Int32) (cn : Nat) (f : Nat → Int32) (k : Nat) : (Bool) × (Nat) × (Int32) × (Nat → Int32) × (Nat → Int32) := (match x_pr_readPattern_7 pc cn f k ((q_pat k).length) 0 oa ob 0 pp with | .inl (a4_0, a4_1, a4_2, a4_3) => (true, a4_3, a4_2, a4_0, a4_1) | .inr zz => zz)
def x_pr_readCommand_10 (pc : Nat) (pp : Nat) (vb : Nat → Int32) (cn : Nat) (f : Nat → Int32) : Nat → Nat → (Nat) → (Nat → Int32) → (Nat → Int32) → (Int32) → (Nat) → ((Nat) × (Nat → Int32) × (Nat → Int32) × (Int32) × (Nat)) ⊕ ((Bool) × (Nat) × (Int32) × (Nat → Int32) × (Nat → Int32) × (Nat → Int32))
  | 0, _, c10_3, oa_10, ob_10, po_10, pp_10 => .inl (c10_3, oa_10, ob_10, po_10, pp_10)
  | r + 1, k, c10_3, oa_10, ob_10, po_10, pp_10 => (match x_pr_readPattern pc pp oa_10 ob_10 cn f k with | (v2, y2_pp, y2_po, y2_oa, y2_ob) => (if v2 then .inr (true, y2_pp, y2_po, upd vb pc (nI (k)), y2_oa, y2_ob) else x_pr_readCommand_10 pc pp vb cn f r (k + 1) (if c10_3 < y2_pp then y2_pp else c10_3) y2_oa y2_ob y2_po y2_pp))
def x_pr_readCommand (pc : Nat) (pp : Nat) (po : Int32) (vb : Nat → Int32) (oa : Nat → Int32) (ob : Nat → Int32) (cn : Nat) (f : Nat → Int32) : (Bool) × (Nat) × (Int32) × (Nat → Int32) × (Nat → Int32) × (Nat → Int32) := (match x_pr_readCommand_10 pc pp vb cn f 11 0 pp oa ob po pp with | .inl (a5_0, a5_1, a5_2, a5_3, a5_4) => (false, a5_0, a5_3, vb, a5_1, a5_2) | .inr zz => zz)
