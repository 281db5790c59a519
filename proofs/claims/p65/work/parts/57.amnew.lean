theorem z_Hs.keepI {h h1 : q_H} {b nx kp : Nat} {rw : Nat → ZS} (s : z_Hs h b nx kp rw) (hle : h.1 ≤ h1.1) (hq : ∀ i, 125 ≤ i → i < 199 → h1.2 i = h.2 i) : z_Hs h1 b nx kp rw := by
  obtain ⟨w0, w1, w2, w3, w4, w5⟩ := s
  exact ⟨Nat.le_trans w0 hle, w1, w2, (hq _ (by omega) (by omega)).trans w3, (hq _ (by omega) (by omega)).trans w4, fun r hr => (w5 r hr).keepI hle (fun i q1 q2 => hq i (by omega) (by omega))⟩
set_option maxRecDepth 100000 in
set_option maxHeartbeats 8000000 in
theorem e_X10_init {g : q_G} {h : q_H} {d : Nat} (s0 : h.1 = 101) (c0 : h.2 100 = some (.inr (11, [.null, .null, .null, .null, .null, .null, .null, .null, .null, .null, .int 0, .int 0, .int 0]))) (hd : 4 ≤ d) : q_Spec g mX10_init d 114 1938 [.ref 100] h (q_chg (.inl none) (fun h1 => h1.1 = 215 ∧ (∀ j, j < 100 → h1.2 j = h.2 j) ∧ z_S2t h1 101 z_zs ∧ z_S2t h1 109 z_zs ∧ z_S2t h1 117 z_zs ∧ z_Hs h1 125 0 0 (fun _ => z_zs) ∧ z_Lb h1 199 0 0 (fun _ => 0) ∧ z_Ga h1 201 (fun _ => 0) (fun _ => 0) ∧ z_Ex h1 204 (fun _ => 0) (fun _ => 0) 1 ∧ z_Pr h1 207 0 0 0 (fun _ => 0) (fun _ => 0) (fun _ => 0) ∧ h1.2 100 = some (.inr (11, [.ref 101, .ref 109, .ref 117, .ref 125, .ref 199, .ref 201, .ref 204, .ref 207, .ref 211, .ref 213, .int 0, .int (-1), .int (-1)])) ∧ h1.2 211 = some (.inr (1, [.ref 212, .int 0, .int 0, .int 0])) ∧ h1.2 212 = some (.inl (3, 16, .inl (fun _ => 0))) ∧ h1.2 213 = some (.inr (1, [.ref 214, .int 0, .int 0, .int 0])) ∧ h1.2 214 = some (.inl (3, 16, .inl (fun _ => 0))))) := by
  have hb : q_R0 ≤ 100 := by
    rw [q_R0e]
    omega
  refine q_enter (by decide +kernel) rfl rfl (Nat.le_of_ble_eq_true rfl) (fun hz => ?_)
  change q_W _ _ _ _ _ _ _ _ _ [.ref 100] [] _
  refine q_aload_n (by first | assumption | (rw [q_R0e]; omega)) dX10_init_0 rfl ?_
  refine q_objInit (by first | assumption | (rw [q_R0e]; omega)) kL_X10_3 kO_1 kO_2 rfl dX10_init_1 (Nat.le_of_ble_eq_true rfl) (by omega) ?_
  refine q_aload_n (by first | assumption | (rw [q_R0e]; omega)) dX10_init_4 rfl ?_
  refine q_new (fs := [.null, .null, .null, .null, .null, .null, .int 0, .int 0, .int 0]) kC_X8 kL_X10_9 kV_X8 kJ_X8 rfl dX10_init_5 (by intro j hj; have hj9 : j = 0 ∨ j = 1 ∨ j = 2 ∨ j = 3 ∨ j = 4 ∨ j = 5 ∨ j = 6 ∨ j = 7 ∨ j = 8 := (by omega); rcases hj9 with rfl | rfl | rfl | rfl | rfl | rfl | rfl | rfl | rfl <;> rfl) (by omega) (by omega) (fun hz => ?_)
  refine q_pushE (P := fun H => q_W _ _ _ _ _ _ _ _ _ _ _ H) (fun h1 s_h1 e_h1 f_h1 => ?_)
  rw [s0] at s_h1 e_h1 f_h1 ⊢
  have s_h1 : h1.1 = 102 := s_h1
  have c100_h1 := (f_h1 100 (by omega)).trans c0
  have o_h1 : ∀ j, j < 100 → h1.2 j = h.2 j := fun j hj => f_h1 j (by omega)
  change q_W _ _ _ _ _ _ _ _ 8 [.ref 100] [.ref 101, .ref 100] h1
  refine q_dup dX10_init_8 rfl ?_
  refine q_invIN (mc' := 7) (ms' := 57) (d' := d - 1) (as := []) (i := 101) rfl rfl (by first | assumption | (rw [q_R0e]; omega)) dX10_init_9 kM_X8_init kN_X10_11 kI_X8_init rfl rfl rfl (Nat.le_of_ble_eq_true rfl) (by omega) (by decide) (by omega) (by omega) (e_stNew (b := 101) (by first | assumption | (rw [q_R0e]; omega)) s_h1 e_h1 (by omega)) (q_kC (fun h2 hB => ?_)) q_xC
  obtain ⟨s_h2, f_h2, w_h2⟩ := hB
  have s_h2 : h2.1 = 109 := s_h2
  have c100_h2 := (f_h2 100 (by omega)).trans c100_h1
  have o_h2 : ∀ j, j < 100 → h2.2 j = h.2 j := fun j hj => (f_h2 j (by omega)).trans (o_h1 j hj)
  change q_W _ _ _ _ _ _ _ _ 12 [.ref 100] [.ref 101, .ref 100] h2
  refine q_putfF (k := 0) kC_X10 kL_X10_12 rfl (by decide) rfl rfl rfl dX10_init_12 c100_h2 (Nat.le_of_ble_eq_true rfl) ⟨rfl, rfl⟩ rfl ?_
  refine q_setE (P := fun H => q_W _ _ _ _ _ _ _ _ _ _ _ H) (fun h3 s_h3 e_h3 f_h3 => ?_)
  have s_h3 : h3.1 = 109 := s_h3.trans s_h2
  have v101_h3 := w_h2.keepI (h1 := h3) (by omega) (fun i q1 q2 => f_h3 i (by omega))
  have o_h3 : ∀ j, j < 100 → h3.2 j = h.2 j := fun j hj => (f_h3 j (by omega)).trans (o_h2 j hj)
  have c100_h3 : h3.2 100 = some (.inr (11, [.ref 101, .null, .null, .null, .null, .null, .null, .null, .null, .null, .int 0, .int 0, .int 0])) := e_h3
  change q_W _ _ _ _ _ _ _ _ 15 [.ref 100] [] h3
  refine q_aload_n (by first | assumption | (rw [q_R0e]; omega)) dX10_init_15 rfl ?_
  refine q_new (fs := [.null, .null, .null, .null, .null, .null, .int 0, .int 0, .int 0]) kC_X8 kL_X10_9 kV_X8 kJ_X8 rfl dX10_init_16 (by intro j hj; have hj9 : j = 0 ∨ j = 1 ∨ j = 2 ∨ j = 3 ∨ j = 4 ∨ j = 5 ∨ j = 6 ∨ j = 7 ∨ j = 8 := (by omega); rcases hj9 with rfl | rfl | rfl | rfl | rfl | rfl | rfl | rfl | rfl <;> rfl) (by omega) (by omega) (fun hz => ?_)
  refine q_pushE (P := fun H => q_W _ _ _ _ _ _ _ _ _ _ _ H) (fun h4 s_h4 e_h4 f_h4 => ?_)
  rw [s_h3] at s_h4 e_h4 f_h4 ⊢
  have s_h4 : h4.1 = 110 := s_h4
  have c100_h4 := (f_h4 100 (by omega)).trans c100_h3
  have v101_h4 := v101_h3.keepI (h1 := h4) (by omega) (fun i q1 q2 => f_h4 i (by omega))
  have o_h4 : ∀ j, j < 100 → h4.2 j = h.2 j := fun j hj => (f_h4 j (by omega)).trans (o_h3 j hj)
  change q_W _ _ _ _ _ _ _ _ 19 [.ref 100] [.ref 109, .ref 100] h4
  refine q_dup dX10_init_19 rfl ?_
  refine q_invIN (mc' := 7) (ms' := 57) (d' := d - 1) (as := []) (i := 109) rfl rfl (by first | assumption | (rw [q_R0e]; omega)) dX10_init_20 kM_X8_init kN_X10_11 kI_X8_init rfl rfl rfl (Nat.le_of_ble_eq_true rfl) (by omega) (by decide) (by omega) (by omega) (e_stNew (b := 109) (by first | assumption | (rw [q_R0e]; omega)) s_h4 e_h4 (by omega)) (q_kC (fun h5 hB => ?_)) q_xC
  obtain ⟨s_h5, f_h5, w_h5⟩ := hB
  have s_h5 : h5.1 = 117 := s_h5
  have c100_h5 := (f_h5 100 (by omega)).trans c100_h4
  have v101_h5 := v101_h4.keepI (h1 := h5) (by omega) (fun i q1 q2 => f_h5 i (by omega))
  have o_h5 : ∀ j, j < 100 → h5.2 j = h.2 j := fun j hj => (f_h5 j (by omega)).trans (o_h4 j hj)
  change q_W _ _ _ _ _ _ _ _ 23 [.ref 100] [.ref 109, .ref 100] h5
  refine q_putfF (k := 1) kC_X10 kL_X10_16 rfl (by decide) rfl rfl rfl dX10_init_23 c100_h5 (Nat.le_of_ble_eq_true rfl) ⟨rfl, rfl⟩ rfl ?_
  refine q_setE (P := fun H => q_W _ _ _ _ _ _ _ _ _ _ _ H) (fun h6 s_h6 e_h6 f_h6 => ?_)
  have s_h6 : h6.1 = 117 := s_h6.trans s_h5
  have v101_h6 := v101_h5.keepI (h1 := h6) (by omega) (fun i q1 q2 => f_h6 i (by omega))
  have v109_h6 := w_h5.keepI (h1 := h6) (by omega) (fun i q1 q2 => f_h6 i (by omega))
  have o_h6 : ∀ j, j < 100 → h6.2 j = h.2 j := fun j hj => (f_h6 j (by omega)).trans (o_h5 j hj)
  have c100_h6 : h6.2 100 = some (.inr (11, [.ref 101, .ref 109, .null, .null, .null, .null, .null, .null, .null, .null, .int 0, .int 0, .int 0])) := e_h6
  change q_W _ _ _ _ _ _ _ _ 26 [.ref 100] [] h6
  refine q_aload_n (by first | assumption | (rw [q_R0e]; omega)) dX10_init_26 rfl ?_
  refine q_new (fs := [.null, .null, .null, .null, .null, .null, .int 0, .int 0, .int 0]) kC_X8 kL_X10_9 kV_X8 kJ_X8 rfl dX10_init_27 (by intro j hj; have hj9 : j = 0 ∨ j = 1 ∨ j = 2 ∨ j = 3 ∨ j = 4 ∨ j = 5 ∨ j = 6 ∨ j = 7 ∨ j = 8 := (by omega); rcases hj9 with rfl | rfl | rfl | rfl | rfl | rfl | rfl | rfl | rfl <;> rfl) (by omega) (by omega) (fun hz => ?_)
  refine q_pushE (P := fun H => q_W _ _ _ _ _ _ _ _ _ _ _ H) (fun h7 s_h7 e_h7 f_h7 => ?_)
  rw [s_h6] at s_h7 e_h7 f_h7 ⊢
  have s_h7 : h7.1 = 118 := s_h7
  have c100_h7 := (f_h7 100 (by omega)).trans c100_h6
  have v101_h7 := v101_h6.keepI (h1 := h7) (by omega) (fun i q1 q2 => f_h7 i (by omega))
  have v109_h7 := v109_h6.keepI (h1 := h7) (by omega) (fun i q1 q2 => f_h7 i (by omega))
  have o_h7 : ∀ j, j < 100 → h7.2 j = h.2 j := fun j hj => (f_h7 j (by omega)).trans (o_h6 j hj)
  change q_W _ _ _ _ _ _ _ _ 30 [.ref 100] [.ref 117, .ref 100] h7
  refine q_dup dX10_init_30 rfl ?_
  refine q_invIN (mc' := 7) (ms' := 57) (d' := d - 1) (as := []) (i := 117) rfl rfl (by first | assumption | (rw [q_R0e]; omega)) dX10_init_31 kM_X8_init kN_X10_11 kI_X8_init rfl rfl rfl (Nat.le_of_ble_eq_true rfl) (by omega) (by decide) (by omega) (by omega) (e_stNew (b := 117) (by first | assumption | (rw [q_R0e]; omega)) s_h7 e_h7 (by omega)) (q_kC (fun h8 hB => ?_)) q_xC
  obtain ⟨s_h8, f_h8, w_h8⟩ := hB
  have s_h8 : h8.1 = 125 := s_h8
  have c100_h8 := (f_h8 100 (by omega)).trans c100_h7
  have v101_h8 := v101_h7.keepI (h1 := h8) (by omega) (fun i q1 q2 => f_h8 i (by omega))
  have v109_h8 := v109_h7.keepI (h1 := h8) (by omega) (fun i q1 q2 => f_h8 i (by omega))
  have o_h8 : ∀ j, j < 100 → h8.2 j = h.2 j := fun j hj => (f_h8 j (by omega)).trans (o_h7 j hj)
  change q_W _ _ _ _ _ _ _ _ 34 [.ref 100] [.ref 117, .ref 100] h8
  refine q_putfF (k := 2) kC_X10 kL_X10_19 rfl (by decide) rfl rfl rfl dX10_init_34 c100_h8 (Nat.le_of_ble_eq_true rfl) ⟨rfl, rfl⟩ rfl ?_
  refine q_setE (P := fun H => q_W _ _ _ _ _ _ _ _ _ _ _ H) (fun h9 s_h9 e_h9 f_h9 => ?_)
  have s_h9 : h9.1 = 125 := s_h9.trans s_h8
  have v101_h9 := v101_h8.keepI (h1 := h9) (by omega) (fun i q1 q2 => f_h9 i (by omega))
  have v109_h9 := v109_h8.keepI (h1 := h9) (by omega) (fun i q1 q2 => f_h9 i (by omega))
  have v117_h9 := w_h8.keepI (h1 := h9) (by omega) (fun i q1 q2 => f_h9 i (by omega))
  have o_h9 : ∀ j, j < 100 → h9.2 j = h.2 j := fun j hj => (f_h9 j (by omega)).trans (o_h8 j hj)
  have c100_h9 : h9.2 100 = some (.inr (11, [.ref 101, .ref 109, .ref 117, .null, .null, .null, .null, .null, .null, .null, .int 0, .int 0, .int 0])) := e_h9
  change q_W _ _ _ _ _ _ _ _ 37 [.ref 100] [] h9
  refine q_aload_n (by first | assumption | (rw [q_R0e]; omega)) dX10_init_37 rfl ?_
  refine q_new (fs := [.null, .int 0, .int 0]) kC_X5 kL_X10_22 kV_X5 kJ_X5 rfl dX10_init_38 (by intro j hj; have hj9 : j = 0 ∨ j = 1 ∨ j = 2 := (by omega); rcases hj9 with rfl | rfl | rfl <;> rfl) (by omega) (by omega) (fun hz => ?_)
  refine q_pushE (P := fun H => q_W _ _ _ _ _ _ _ _ _ _ _ H) (fun h10 s_h10 e_h10 f_h10 => ?_)
  rw [s_h9] at s_h10 e_h10 f_h10 ⊢
  have s_h10 : h10.1 = 126 := s_h10
  have c100_h10 := (f_h10 100 (by omega)).trans c100_h9
  have v101_h10 := v101_h9.keepI (h1 := h10) (by omega) (fun i q1 q2 => f_h10 i (by omega))
  have v109_h10 := v109_h9.keepI (h1 := h10) (by omega) (fun i q1 q2 => f_h10 i (by omega))
  have v117_h10 := v117_h9.keepI (h1 := h10) (by omega) (fun i q1 q2 => f_h10 i (by omega))
  have o_h10 : ∀ j, j < 100 → h10.2 j = h.2 j := fun j hj => (f_h10 j (by omega)).trans (o_h9 j hj)
  change q_W _ _ _ _ _ _ _ _ 41 [.ref 100] [.ref 125, .ref 100] h10
  refine q_dup dX10_init_41 rfl ?_
  refine q_invI (mc' := 73) (ms' := 603) (d' := d - 1) (as := []) (i := 125) rfl rfl (by first | assumption | (rw [q_R0e]; omega)) dX10_init_42 kM_X5_init kL_X10_24 kI_X5_init rfl rfl rfl (Nat.le_of_ble_eq_true rfl) (by omega) (by decide) (by omega) (by omega) (e_hiNew s_h10 e_h10 (by omega)) (q_kC (fun h11 hB => ?_)) q_xC
  obtain ⟨s_h11, f_h11, w_h11⟩ := hB
  have s_h11 : h11.1 = 199 := s_h11
  have c100_h11 := (f_h11 100 (by omega)).trans c100_h10
  have v101_h11 := v101_h10.keepI (h1 := h11) (by omega) (fun i q1 q2 => f_h11 i (by omega))
  have v109_h11 := v109_h10.keepI (h1 := h11) (by omega) (fun i q1 q2 => f_h11 i (by omega))
  have v117_h11 := v117_h10.keepI (h1 := h11) (by omega) (fun i q1 q2 => f_h11 i (by omega))
  have o_h11 : ∀ j, j < 100 → h11.2 j = h.2 j := fun j hj => (f_h11 j (by omega)).trans (o_h10 j hj)
  change q_W _ _ _ _ _ _ _ _ 45 [.ref 100] [.ref 125, .ref 100] h11
  refine q_putfF (k := 3) kC_X10 kL_X10_25 rfl (by decide) rfl rfl rfl dX10_init_45 c100_h11 (Nat.le_of_ble_eq_true rfl) ⟨rfl, rfl⟩ rfl ?_
  refine q_setE (P := fun H => q_W _ _ _ _ _ _ _ _ _ _ _ H) (fun h12 s_h12 e_h12 f_h12 => ?_)
  have s_h12 : h12.1 = 199 := s_h12.trans s_h11
  have v101_h12 := v101_h11.keepI (h1 := h12) (by omega) (fun i q1 q2 => f_h12 i (by omega))
  have v109_h12 := v109_h11.keepI (h1 := h12) (by omega) (fun i q1 q2 => f_h12 i (by omega))
  have v117_h12 := v117_h11.keepI (h1 := h12) (by omega) (fun i q1 q2 => f_h12 i (by omega))
  have v125_h12 := w_h11.keepI (h1 := h12) (by omega) (fun i q1 q2 => f_h12 i (by omega))
  have o_h12 : ∀ j, j < 100 → h12.2 j = h.2 j := fun j hj => (f_h12 j (by omega)).trans (o_h11 j hj)
  have c100_h12 : h12.2 100 = some (.inr (11, [.ref 101, .ref 109, .ref 117, .ref 125, .null, .null, .null, .null, .null, .null, .int 0, .int 0, .int 0])) := e_h12
  change q_W _ _ _ _ _ _ _ _ 48 [.ref 100] [] h12
  refine q_aload_n (by first | assumption | (rw [q_R0e]; omega)) dX10_init_48 rfl ?_
  refine q_new (fs := [.null, .int 0, .int 0]) kC_X6 kL_X10_29 kV_X6 kJ_X6 rfl dX10_init_49 (by intro j hj; have hj9 : j = 0 ∨ j = 1 ∨ j = 2 := (by omega); rcases hj9 with rfl | rfl | rfl <;> rfl) (by omega) (by omega) (fun hz => ?_)
  refine q_pushE (P := fun H => q_W _ _ _ _ _ _ _ _ _ _ _ H) (fun h13 s_h13 e_h13 f_h13 => ?_)
  rw [s_h12] at s_h13 e_h13 f_h13 ⊢
  have s_h13 : h13.1 = 200 := s_h13
  have c100_h13 := (f_h13 100 (by omega)).trans c100_h12
  have v101_h13 := v101_h12.keepI (h1 := h13) (by omega) (fun i q1 q2 => f_h13 i (by omega))
  have v109_h13 := v109_h12.keepI (h1 := h13) (by omega) (fun i q1 q2 => f_h13 i (by omega))
  have v117_h13 := v117_h12.keepI (h1 := h13) (by omega) (fun i q1 q2 => f_h13 i (by omega))
  have v125_h13 := v125_h12.keepI (h1 := h13) (by omega) (fun i q1 q2 => f_h13 i (by omega))
  have o_h13 : ∀ j, j < 100 → h13.2 j = h.2 j := fun j hj => (f_h13 j (by omega)).trans (o_h12 j hj)
  change q_W _ _ _ _ _ _ _ _ 52 [.ref 100] [.ref 199, .ref 100] h13
  refine q_dup dX10_init_52 rfl ?_
  refine q_invIN (mc' := 1) (ms' := 8) (d' := d - 1) (as := []) (i := 199) rfl rfl (by first | assumption | (rw [q_R0e]; omega)) dX10_init_53 kM_X6_init kN_X10_31 kI_X6_init rfl rfl rfl (Nat.le_of_ble_eq_true rfl) (by omega) (by decide) (by omega) (by omega) (e_X6_init (b := 199) (by first | assumption | (rw [q_R0e]; omega)) s_h13 e_h13 (by omega)) (q_kC (fun h14 hB => ?_)) q_xC
  obtain ⟨s_h14, f_h14, k0_h14, k1_h14⟩ := hB
  have s_h14 : h14.1 = 201 := s_h14
  have c100_h14 := (f_h14 100 (by omega)).trans c100_h13
  have v101_h14 := v101_h13.keepI (h1 := h14) (by omega) (fun i q1 q2 => f_h14 i (by omega))
  have v109_h14 := v109_h13.keepI (h1 := h14) (by omega) (fun i q1 q2 => f_h14 i (by omega))
  have v117_h14 := v117_h13.keepI (h1 := h14) (by omega) (fun i q1 q2 => f_h14 i (by omega))
  have v125_h14 := v125_h13.keepI (h1 := h14) (by omega) (fun i q1 q2 => f_h14 i (by omega))
  have o_h14 : ∀ j, j < 100 → h14.2 j = h.2 j := fun j hj => (f_h14 j (by omega)).trans (o_h13 j hj)
  have w_h14 : z_Lb h14 199 0 0 (fun _ => 0) := ⟨(by first | assumption | (rw [q_R0e]; omega)), by omega, k0_h14, k1_h14⟩
  change q_W _ _ _ _ _ _ _ _ 56 [.ref 100] [.ref 199, .ref 100] h14
  refine q_putfF (k := 4) kC_X10 kL_X10_32 rfl (by decide) rfl rfl rfl dX10_init_56 c100_h14 (Nat.le_of_ble_eq_true rfl) ⟨rfl, rfl⟩ rfl ?_
  refine q_setE (P := fun H => q_W _ _ _ _ _ _ _ _ _ _ _ H) (fun h15 s_h15 e_h15 f_h15 => ?_)
  have s_h15 : h15.1 = 201 := s_h15.trans s_h14
  have v101_h15 := v101_h14.keepI (h1 := h15) (by omega) (fun i q1 q2 => f_h15 i (by omega))
  have v109_h15 := v109_h14.keepI (h1 := h15) (by omega) (fun i q1 q2 => f_h15 i (by omega))
  have v117_h15 := v117_h14.keepI (h1 := h15) (by omega) (fun i q1 q2 => f_h15 i (by omega))
  have v125_h15 := v125_h14.keepI (h1 := h15) (by omega) (fun i q1 q2 => f_h15 i (by omega))
  have v199_h15 := w_h14.keepI (h1 := h15) (by omega) (fun i q1 q2 => f_h15 i (by omega))
  have o_h15 : ∀ j, j < 100 → h15.2 j = h.2 j := fun j hj => (f_h15 j (by omega)).trans (o_h14 j hj)
  have c100_h15 : h15.2 100 = some (.inr (11, [.ref 101, .ref 109, .ref 117, .ref 125, .ref 199, .null, .null, .null, .null, .null, .int 0, .int 0, .int 0])) := e_h15
  change q_W _ _ _ _ _ _ _ _ 59 [.ref 100] [] h15
  refine q_aload_n (by first | assumption | (rw [q_R0e]; omega)) dX10_init_59 rfl ?_
  refine q_new (fs := [.null, .null]) kC_X4 kL_X10_36 kV_X4 kJ_X4 rfl dX10_init_60 (by intro j hj; have hj9 : j = 0 ∨ j = 1 := (by omega); rcases hj9 with rfl | rfl <;> rfl) (by omega) (by omega) (fun hz => ?_)
  refine q_pushE (P := fun H => q_W _ _ _ _ _ _ _ _ _ _ _ H) (fun h16 s_h16 e_h16 f_h16 => ?_)
  rw [s_h15] at s_h16 e_h16 f_h16 ⊢
  have s_h16 : h16.1 = 202 := s_h16
  have c100_h16 := (f_h16 100 (by omega)).trans c100_h15
  have v101_h16 := v101_h15.keepI (h1 := h16) (by omega) (fun i q1 q2 => f_h16 i (by omega))
  have v109_h16 := v109_h15.keepI (h1 := h16) (by omega) (fun i q1 q2 => f_h16 i (by omega))
  have v117_h16 := v117_h15.keepI (h1 := h16) (by omega) (fun i q1 q2 => f_h16 i (by omega))
  have v125_h16 := v125_h15.keepI (h1 := h16) (by omega) (fun i q1 q2 => f_h16 i (by omega))
  have v199_h16 := v199_h15.keepI (h1 := h16) (by omega) (fun i q1 q2 => f_h16 i (by omega))
  have o_h16 : ∀ j, j < 100 → h16.2 j = h.2 j := fun j hj => (f_h16 j (by omega)).trans (o_h15 j hj)
  change q_W _ _ _ _ _ _ _ _ 63 [.ref 100] [.ref 201, .ref 100] h16
  refine q_dup dX10_init_63 rfl ?_
  refine q_invIN (mc' := 2) (ms' := 512) (d' := d - 1) (as := []) (i := 201) rfl rfl (by first | assumption | (rw [q_R0e]; omega)) dX10_init_64 kM_X4_init kN_X10_38 kI_X4_init rfl rfl rfl (Nat.le_of_ble_eq_true rfl) (by omega) (by decide) (by omega) (by omega) (e_X4_init (b := 201) (by first | assumption | (rw [q_R0e]; omega)) s_h16 e_h16 (by omega)) (q_kC (fun h17 hB => ?_)) q_xC
  obtain ⟨s_h17, f_h17, k0_h17, k1_h17, k2_h17⟩ := hB
  have s_h17 : h17.1 = 204 := s_h17
  have c100_h17 := (f_h17 100 (by omega)).trans c100_h16
  have v101_h17 := v101_h16.keepI (h1 := h17) (by omega) (fun i q1 q2 => f_h17 i (by omega))
  have v109_h17 := v109_h16.keepI (h1 := h17) (by omega) (fun i q1 q2 => f_h17 i (by omega))
  have v117_h17 := v117_h16.keepI (h1 := h17) (by omega) (fun i q1 q2 => f_h17 i (by omega))
  have v125_h17 := v125_h16.keepI (h1 := h17) (by omega) (fun i q1 q2 => f_h17 i (by omega))
  have v199_h17 := v199_h16.keepI (h1 := h17) (by omega) (fun i q1 q2 => f_h17 i (by omega))
  have o_h17 : ∀ j, j < 100 → h17.2 j = h.2 j := fun j hj => (f_h17 j (by omega)).trans (o_h16 j hj)
  have w_h17 : z_Ga h17 201 (fun _ => 0) (fun _ => 0) := ⟨(by first | assumption | (rw [q_R0e]; omega)), by omega, k0_h17, k1_h17, k2_h17⟩
  change q_W _ _ _ _ _ _ _ _ 67 [.ref 100] [.ref 201, .ref 100] h17
  refine q_putfF (k := 5) kC_X10 kL_X10_39 rfl (by decide) rfl rfl rfl dX10_init_67 c100_h17 (Nat.le_of_ble_eq_true rfl) ⟨rfl, rfl⟩ rfl ?_
  refine q_setE (P := fun H => q_W _ _ _ _ _ _ _ _ _ _ _ H) (fun h18 s_h18 e_h18 f_h18 => ?_)
  have s_h18 : h18.1 = 204 := s_h18.trans s_h17
  have v101_h18 := v101_h17.keepI (h1 := h18) (by omega) (fun i q1 q2 => f_h18 i (by omega))
  have v109_h18 := v109_h17.keepI (h1 := h18) (by omega) (fun i q1 q2 => f_h18 i (by omega))
  have v117_h18 := v117_h17.keepI (h1 := h18) (by omega) (fun i q1 q2 => f_h18 i (by omega))
  have v125_h18 := v125_h17.keepI (h1 := h18) (by omega) (fun i q1 q2 => f_h18 i (by omega))
  have v199_h18 := v199_h17.keepI (h1 := h18) (by omega) (fun i q1 q2 => f_h18 i (by omega))
  have v201_h18 := w_h17.keepI (h1 := h18) (by omega) (fun i q1 q2 => f_h18 i (by omega))
  have o_h18 : ∀ j, j < 100 → h18.2 j = h.2 j := fun j hj => (f_h18 j (by omega)).trans (o_h17 j hj)
  have c100_h18 : h18.2 100 = some (.inr (11, [.ref 101, .ref 109, .ref 117, .ref 125, .ref 199, .ref 201, .null, .null, .null, .null, .int 0, .int 0, .int 0])) := e_h18
  change q_W _ _ _ _ _ _ _ _ 70 [.ref 100] [] h18
  refine q_aload_n (by first | assumption | (rw [q_R0e]; omega)) dX10_init_70 rfl ?_
  refine q_new (fs := [.null, .null, .int 0]) kC_X3 kL_X10_43 kV_X3 kJ_X3 rfl dX10_init_71 (by intro j hj; have hj9 : j = 0 ∨ j = 1 ∨ j = 2 := (by omega); rcases hj9 with rfl | rfl | rfl <;> rfl) (by omega) (by omega) (fun hz => ?_)
  refine q_pushE (P := fun H => q_W _ _ _ _ _ _ _ _ _ _ _ H) (fun h19 s_h19 e_h19 f_h19 => ?_)
  rw [s_h18] at s_h19 e_h19 f_h19 ⊢
  have s_h19 : h19.1 = 205 := s_h19
  have c100_h19 := (f_h19 100 (by omega)).trans c100_h18
  have v101_h19 := v101_h18.keepI (h1 := h19) (by omega) (fun i q1 q2 => f_h19 i (by omega))
  have v109_h19 := v109_h18.keepI (h1 := h19) (by omega) (fun i q1 q2 => f_h19 i (by omega))
  have v117_h19 := v117_h18.keepI (h1 := h19) (by omega) (fun i q1 q2 => f_h19 i (by omega))
  have v125_h19 := v125_h18.keepI (h1 := h19) (by omega) (fun i q1 q2 => f_h19 i (by omega))
  have v199_h19 := v199_h18.keepI (h1 := h19) (by omega) (fun i q1 q2 => f_h19 i (by omega))
  have v201_h19 := v201_h18.keepI (h1 := h19) (by omega) (fun i q1 q2 => f_h19 i (by omega))
  have o_h19 : ∀ j, j < 100 → h19.2 j = h.2 j := fun j hj => (f_h19 j (by omega)).trans (o_h18 j hj)
  change q_W _ _ _ _ _ _ _ _ 74 [.ref 100] [.ref 204, .ref 100] h19
  refine q_dup dX10_init_74 rfl ?_
  refine q_invIN (mc' := 2) (ms' := 512) (d' := d - 1) (as := []) (i := 204) rfl rfl (by first | assumption | (rw [q_R0e]; omega)) dX10_init_75 kM_X3_init kN_X10_45 kI_X3_init rfl rfl rfl (Nat.le_of_ble_eq_true rfl) (by omega) (by decide) (by omega) (by omega) (e_X3_init (b := 204) (by first | assumption | (rw [q_R0e]; omega)) s_h19 e_h19 (by omega)) (q_kC (fun h20 hB => ?_)) q_xC
  obtain ⟨s_h20, f_h20, k0_h20, k1_h20, k2_h20⟩ := hB
  have s_h20 : h20.1 = 207 := s_h20
  have c100_h20 := (f_h20 100 (by omega)).trans c100_h19
  have v101_h20 := v101_h19.keepI (h1 := h20) (by omega) (fun i q1 q2 => f_h20 i (by omega))
  have v109_h20 := v109_h19.keepI (h1 := h20) (by omega) (fun i q1 q2 => f_h20 i (by omega))
  have v117_h20 := v117_h19.keepI (h1 := h20) (by omega) (fun i q1 q2 => f_h20 i (by omega))
  have v125_h20 := v125_h19.keepI (h1 := h20) (by omega) (fun i q1 q2 => f_h20 i (by omega))
  have v199_h20 := v199_h19.keepI (h1 := h20) (by omega) (fun i q1 q2 => f_h20 i (by omega))
  have v201_h20 := v201_h19.keepI (h1 := h20) (by omega) (fun i q1 q2 => f_h20 i (by omega))
  have o_h20 : ∀ j, j < 100 → h20.2 j = h.2 j := fun j hj => (f_h20 j (by omega)).trans (o_h19 j hj)
  have w_h20 : z_Ex h20 204 (fun _ => 0) (fun _ => 0) 1 := ⟨(by first | assumption | (rw [q_R0e]; omega)), by omega, (by decide), k0_h20, k1_h20, k2_h20⟩
  change q_W _ _ _ _ _ _ _ _ 78 [.ref 100] [.ref 204, .ref 100] h20
  refine q_putfF (k := 6) kC_X10 kL_X10_46 rfl (by decide) rfl rfl rfl dX10_init_78 c100_h20 (Nat.le_of_ble_eq_true rfl) ⟨rfl, rfl⟩ rfl ?_
  refine q_setE (P := fun H => q_W _ _ _ _ _ _ _ _ _ _ _ H) (fun h21 s_h21 e_h21 f_h21 => ?_)
  have s_h21 : h21.1 = 207 := s_h21.trans s_h20
  have v101_h21 := v101_h20.keepI (h1 := h21) (by omega) (fun i q1 q2 => f_h21 i (by omega))
  have v109_h21 := v109_h20.keepI (h1 := h21) (by omega) (fun i q1 q2 => f_h21 i (by omega))
  have v117_h21 := v117_h20.keepI (h1 := h21) (by omega) (fun i q1 q2 => f_h21 i (by omega))
  have v125_h21 := v125_h20.keepI (h1 := h21) (by omega) (fun i q1 q2 => f_h21 i (by omega))
  have v199_h21 := v199_h20.keepI (h1 := h21) (by omega) (fun i q1 q2 => f_h21 i (by omega))
  have v201_h21 := v201_h20.keepI (h1 := h21) (by omega) (fun i q1 q2 => f_h21 i (by omega))
  have v204_h21 := w_h20.keepI (h1 := h21) (by omega) (fun i q1 q2 => f_h21 i (by omega))
  have o_h21 : ∀ j, j < 100 → h21.2 j = h.2 j := fun j hj => (f_h21 j (by omega)).trans (o_h20 j hj)
  have c100_h21 : h21.2 100 = some (.inr (11, [.ref 101, .ref 109, .ref 117, .ref 125, .ref 199, .ref 201, .ref 204, .null, .null, .null, .int 0, .int 0, .int 0])) := e_h21
  change q_W _ _ _ _ _ _ _ _ 81 [.ref 100] [] h21
  refine q_aload_n (by first | assumption | (rw [q_R0e]; omega)) dX10_init_81 rfl ?_
  refine q_new (fs := [.null, .null, .null, .int 0, .int 0, .int 0]) kC_X7 kL_X10_50 kV_X7 kJ_X7 rfl dX10_init_82 (by intro j hj; have hj9 : j = 0 ∨ j = 1 ∨ j = 2 ∨ j = 3 ∨ j = 4 ∨ j = 5 := (by omega); rcases hj9 with rfl | rfl | rfl | rfl | rfl | rfl <;> rfl) (by omega) (by omega) (fun hz => ?_)
  refine q_pushE (P := fun H => q_W _ _ _ _ _ _ _ _ _ _ _ H) (fun h22 s_h22 e_h22 f_h22 => ?_)
  rw [s_h21] at s_h22 e_h22 f_h22 ⊢
  have s_h22 : h22.1 = 208 := s_h22
  have c100_h22 := (f_h22 100 (by omega)).trans c100_h21
  have v101_h22 := v101_h21.keepI (h1 := h22) (by omega) (fun i q1 q2 => f_h22 i (by omega))
  have v109_h22 := v109_h21.keepI (h1 := h22) (by omega) (fun i q1 q2 => f_h22 i (by omega))
  have v117_h22 := v117_h21.keepI (h1 := h22) (by omega) (fun i q1 q2 => f_h22 i (by omega))
  have v125_h22 := v125_h21.keepI (h1 := h22) (by omega) (fun i q1 q2 => f_h22 i (by omega))
  have v199_h22 := v199_h21.keepI (h1 := h22) (by omega) (fun i q1 q2 => f_h22 i (by omega))
  have v201_h22 := v201_h21.keepI (h1 := h22) (by omega) (fun i q1 q2 => f_h22 i (by omega))
  have v204_h22 := v204_h21.keepI (h1 := h22) (by omega) (fun i q1 q2 => f_h22 i (by omega))
  have o_h22 : ∀ j, j < 100 → h22.2 j = h.2 j := fun j hj => (f_h22 j (by omega)).trans (o_h21 j hj)
  change q_W _ _ _ _ _ _ _ _ 85 [.ref 100] [.ref 207, .ref 100] h22
  refine q_dup dX10_init_85 rfl ?_
  refine q_invIN (mc' := 3) (ms' := 48) (d' := d - 1) (as := []) (i := 207) rfl rfl (by first | assumption | (rw [q_R0e]; omega)) dX10_init_86 kM_X7_init kN_X10_52 kI_X7_init rfl rfl rfl (Nat.le_of_ble_eq_true rfl) (by omega) (by decide) (by omega) (by omega) (e_X7_init (b := 207) (by first | assumption | (rw [q_R0e]; omega)) s_h22 e_h22 (by omega)) (q_kC (fun h23 hB => ?_)) q_xC
  obtain ⟨s_h23, f_h23, k0_h23, k1_h23, k2_h23, k3_h23⟩ := hB
  have s_h23 : h23.1 = 211 := s_h23
  have c100_h23 := (f_h23 100 (by omega)).trans c100_h22
  have v101_h23 := v101_h22.keepI (h1 := h23) (by omega) (fun i q1 q2 => f_h23 i (by omega))
  have v109_h23 := v109_h22.keepI (h1 := h23) (by omega) (fun i q1 q2 => f_h23 i (by omega))
  have v117_h23 := v117_h22.keepI (h1 := h23) (by omega) (fun i q1 q2 => f_h23 i (by omega))
  have v125_h23 := v125_h22.keepI (h1 := h23) (by omega) (fun i q1 q2 => f_h23 i (by omega))
  have v199_h23 := v199_h22.keepI (h1 := h23) (by omega) (fun i q1 q2 => f_h23 i (by omega))
  have v201_h23 := v201_h22.keepI (h1 := h23) (by omega) (fun i q1 q2 => f_h23 i (by omega))
  have v204_h23 := v204_h22.keepI (h1 := h23) (by omega) (fun i q1 q2 => f_h23 i (by omega))
  have o_h23 : ∀ j, j < 100 → h23.2 j = h.2 j := fun j hj => (f_h23 j (by omega)).trans (o_h22 j hj)
  have w_h23 : z_Pr h23 207 0 0 0 (fun _ => 0) (fun _ => 0) (fun _ => 0) := ⟨(by first | assumption | (rw [q_R0e]; omega)), by omega, (by decide), (by decide), k0_h23, k1_h23, k2_h23, k3_h23⟩
  change q_W _ _ _ _ _ _ _ _ 89 [.ref 100] [.ref 207, .ref 100] h23
  refine q_putfF (k := 7) kC_X10 kL_X10_53 rfl (by decide) rfl rfl rfl dX10_init_89 c100_h23 (Nat.le_of_ble_eq_true rfl) ⟨rfl, rfl⟩ rfl ?_
  refine q_setE (P := fun H => q_W _ _ _ _ _ _ _ _ _ _ _ H) (fun h24 s_h24 e_h24 f_h24 => ?_)
  have s_h24 : h24.1 = 211 := s_h24.trans s_h23
  have v101_h24 := v101_h23.keepI (h1 := h24) (by omega) (fun i q1 q2 => f_h24 i (by omega))
  have v109_h24 := v109_h23.keepI (h1 := h24) (by omega) (fun i q1 q2 => f_h24 i (by omega))
  have v117_h24 := v117_h23.keepI (h1 := h24) (by omega) (fun i q1 q2 => f_h24 i (by omega))
  have v125_h24 := v125_h23.keepI (h1 := h24) (by omega) (fun i q1 q2 => f_h24 i (by omega))
  have v199_h24 := v199_h23.keepI (h1 := h24) (by omega) (fun i q1 q2 => f_h24 i (by omega))
  have v201_h24 := v201_h23.keepI (h1 := h24) (by omega) (fun i q1 q2 => f_h24 i (by omega))
  have v204_h24 := v204_h23.keepI (h1 := h24) (by omega) (fun i q1 q2 => f_h24 i (by omega))
  have v207_h24 := w_h23.keepI (h1 := h24) (by omega) (fun i q1 q2 => f_h24 i (by omega))
  have o_h24 : ∀ j, j < 100 → h24.2 j = h.2 j := fun j hj => (f_h24 j (by omega)).trans (o_h23 j hj)
  have c100_h24 : h24.2 100 = some (.inr (11, [.ref 101, .ref 109, .ref 117, .ref 125, .ref 199, .ref 201, .ref 204, .ref 207, .null, .null, .int 0, .int 0, .int 0])) := e_h24
  change q_W _ _ _ _ _ _ _ _ 92 [.ref 100] [] h24
  refine q_aload_n (by first | assumption | (rw [q_R0e]; omega)) dX10_init_92 rfl ?_
  refine q_new (fs := [.null, .int 0, .int 0, .int 0]) kC_J4 kL_X10_57 kV_J4 kJ_J4 rfl dX10_init_93 (by intro j hj; have hj9 : j = 0 ∨ j = 1 ∨ j = 2 ∨ j = 3 := (by omega); rcases hj9 with rfl | rfl | rfl | rfl <;> rfl) (by omega) (by omega) (fun hz => ?_)
  refine q_pushE (P := fun H => q_W _ _ _ _ _ _ _ _ _ _ _ H) (fun h25 s_h25 e_h25 f_h25 => ?_)
  rw [s_h24] at s_h25 e_h25 f_h25 ⊢
  have s_h25 : h25.1 = 212 := s_h25
  have c100_h25 := (f_h25 100 (by omega)).trans c100_h24
  have v101_h25 := v101_h24.keepI (h1 := h25) (by omega) (fun i q1 q2 => f_h25 i (by omega))
  have v109_h25 := v109_h24.keepI (h1 := h25) (by omega) (fun i q1 q2 => f_h25 i (by omega))
  have v117_h25 := v117_h24.keepI (h1 := h25) (by omega) (fun i q1 q2 => f_h25 i (by omega))
  have v125_h25 := v125_h24.keepI (h1 := h25) (by omega) (fun i q1 q2 => f_h25 i (by omega))
  have v199_h25 := v199_h24.keepI (h1 := h25) (by omega) (fun i q1 q2 => f_h25 i (by omega))
  have v201_h25 := v201_h24.keepI (h1 := h25) (by omega) (fun i q1 q2 => f_h25 i (by omega))
  have v204_h25 := v204_h24.keepI (h1 := h25) (by omega) (fun i q1 q2 => f_h25 i (by omega))
  have v207_h25 := v207_h24.keepI (h1 := h25) (by omega) (fun i q1 q2 => f_h25 i (by omega))
  have o_h25 : ∀ j, j < 100 → h25.2 j = h.2 j := fun j hj => (f_h25 j (by omega)).trans (o_h24 j hj)
  change q_W _ _ _ _ _ _ _ _ 96 [.ref 100] [.ref 211, .ref 100] h25
  refine q_dup dX10_init_96 rfl ?_
  refine q_invI (mc' := 1) (ms' := 16) (d' := d - 1) (as := []) (i := 211) rfl rfl (by first | assumption | (rw [q_R0e]; omega)) dX10_init_97 kM_J4_init_da8c8 kL_X10_59 kI_J4_init_da8c8 rfl rfl rfl (Nat.le_of_ble_eq_true rfl) (by omega) (by decide) (by omega) (by omega) (e_J4_init_da8c8 (b := 211) (by first | assumption | (rw [q_R0e]; omega)) s_h25 e_h25 (by omega)) (q_kC (fun h26 hB => ?_)) q_xC
  obtain ⟨s_h26, f_h26, k0_h26, k1_h26⟩ := hB
  have s_h26 : h26.1 = 213 := s_h26
  have c100_h26 := (f_h26 100 (by omega)).trans c100_h25
  have v101_h26 := v101_h25.keepI (h1 := h26) (by omega) (fun i q1 q2 => f_h26 i (by omega))
  have v109_h26 := v109_h25.keepI (h1 := h26) (by omega) (fun i q1 q2 => f_h26 i (by omega))
  have v117_h26 := v117_h25.keepI (h1 := h26) (by omega) (fun i q1 q2 => f_h26 i (by omega))
  have v125_h26 := v125_h25.keepI (h1 := h26) (by omega) (fun i q1 q2 => f_h26 i (by omega))
  have v199_h26 := v199_h25.keepI (h1 := h26) (by omega) (fun i q1 q2 => f_h26 i (by omega))
  have v201_h26 := v201_h25.keepI (h1 := h26) (by omega) (fun i q1 q2 => f_h26 i (by omega))
  have v204_h26 := v204_h25.keepI (h1 := h26) (by omega) (fun i q1 q2 => f_h26 i (by omega))
  have v207_h26 := v207_h25.keepI (h1 := h26) (by omega) (fun i q1 q2 => f_h26 i (by omega))
  have o_h26 : ∀ j, j < 100 → h26.2 j = h.2 j := fun j hj => (f_h26 j (by omega)).trans (o_h25 j hj)
  have c211_h26 : h26.2 211 = some (.inr (1, [.ref 212, .int 0, .int 0, .int 0])) := k0_h26
  have c212_h26 : h26.2 212 = some (.inl (3, 16, .inl (fun _ => 0))) := k1_h26
  change q_W _ _ _ _ _ _ _ _ 100 [.ref 100] [.ref 211, .ref 100] h26
  refine q_putfF (k := 8) kC_X10 kL_X10_60 rfl (by decide) rfl rfl rfl dX10_init_100 c100_h26 (Nat.le_of_ble_eq_true rfl) ⟨rfl, rfl⟩ rfl ?_
  refine q_setE (P := fun H => q_W _ _ _ _ _ _ _ _ _ _ _ H) (fun h27 s_h27 e_h27 f_h27 => ?_)
  have s_h27 : h27.1 = 213 := s_h27.trans s_h26
  have c211_h27 := (f_h27 211 (by omega)).trans c211_h26
  have c212_h27 := (f_h27 212 (by omega)).trans c212_h26
  have v101_h27 := v101_h26.keepI (h1 := h27) (by omega) (fun i q1 q2 => f_h27 i (by omega))
  have v109_h27 := v109_h26.keepI (h1 := h27) (by omega) (fun i q1 q2 => f_h27 i (by omega))
  have v117_h27 := v117_h26.keepI (h1 := h27) (by omega) (fun i q1 q2 => f_h27 i (by omega))
  have v125_h27 := v125_h26.keepI (h1 := h27) (by omega) (fun i q1 q2 => f_h27 i (by omega))
  have v199_h27 := v199_h26.keepI (h1 := h27) (by omega) (fun i q1 q2 => f_h27 i (by omega))
  have v201_h27 := v201_h26.keepI (h1 := h27) (by omega) (fun i q1 q2 => f_h27 i (by omega))
  have v204_h27 := v204_h26.keepI (h1 := h27) (by omega) (fun i q1 q2 => f_h27 i (by omega))
  have v207_h27 := v207_h26.keepI (h1 := h27) (by omega) (fun i q1 q2 => f_h27 i (by omega))
  have o_h27 : ∀ j, j < 100 → h27.2 j = h.2 j := fun j hj => (f_h27 j (by omega)).trans (o_h26 j hj)
  have c100_h27 : h27.2 100 = some (.inr (11, [.ref 101, .ref 109, .ref 117, .ref 125, .ref 199, .ref 201, .ref 204, .ref 207, .ref 211, .null, .int 0, .int 0, .int 0])) := e_h27
  change q_W _ _ _ _ _ _ _ _ 103 [.ref 100] [] h27
  refine q_aload_n (by first | assumption | (rw [q_R0e]; omega)) dX10_init_103 rfl ?_
  refine q_new (fs := [.null, .int 0, .int 0, .int 0]) kC_J4 kL_X10_57 kV_J4 kJ_J4 rfl dX10_init_104 (by intro j hj; have hj9 : j = 0 ∨ j = 1 ∨ j = 2 ∨ j = 3 := (by omega); rcases hj9 with rfl | rfl | rfl | rfl <;> rfl) (by omega) (by omega) (fun hz => ?_)
  refine q_pushE (P := fun H => q_W _ _ _ _ _ _ _ _ _ _ _ H) (fun h28 s_h28 e_h28 f_h28 => ?_)
  rw [s_h27] at s_h28 e_h28 f_h28 ⊢
  have s_h28 : h28.1 = 214 := s_h28
  have c100_h28 := (f_h28 100 (by omega)).trans c100_h27
  have c211_h28 := (f_h28 211 (by omega)).trans c211_h27
  have c212_h28 := (f_h28 212 (by omega)).trans c212_h27
  have v101_h28 := v101_h27.keepI (h1 := h28) (by omega) (fun i q1 q2 => f_h28 i (by omega))
  have v109_h28 := v109_h27.keepI (h1 := h28) (by omega) (fun i q1 q2 => f_h28 i (by omega))
  have v117_h28 := v117_h27.keepI (h1 := h28) (by omega) (fun i q1 q2 => f_h28 i (by omega))
  have v125_h28 := v125_h27.keepI (h1 := h28) (by omega) (fun i q1 q2 => f_h28 i (by omega))
  have v199_h28 := v199_h27.keepI (h1 := h28) (by omega) (fun i q1 q2 => f_h28 i (by omega))
  have v201_h28 := v201_h27.keepI (h1 := h28) (by omega) (fun i q1 q2 => f_h28 i (by omega))
  have v204_h28 := v204_h27.keepI (h1 := h28) (by omega) (fun i q1 q2 => f_h28 i (by omega))
  have v207_h28 := v207_h27.keepI (h1 := h28) (by omega) (fun i q1 q2 => f_h28 i (by omega))
  have o_h28 : ∀ j, j < 100 → h28.2 j = h.2 j := fun j hj => (f_h28 j (by omega)).trans (o_h27 j hj)
  change q_W _ _ _ _ _ _ _ _ 107 [.ref 100] [.ref 213, .ref 100] h28
  refine q_dup dX10_init_107 rfl ?_
  refine q_invI (mc' := 1) (ms' := 16) (d' := d - 1) (as := []) (i := 213) rfl rfl (by first | assumption | (rw [q_R0e]; omega)) dX10_init_108 kM_J4_init_da8c8 kL_X10_59 kI_J4_init_da8c8 rfl rfl rfl (Nat.le_of_ble_eq_true rfl) (by omega) (by decide) (by omega) (by omega) (e_J4_init_da8c8 (b := 213) (by first | assumption | (rw [q_R0e]; omega)) s_h28 e_h28 (by omega)) (q_kC (fun h29 hB => ?_)) q_xC
  obtain ⟨s_h29, f_h29, k0_h29, k1_h29⟩ := hB
  have s_h29 : h29.1 = 215 := s_h29
  have c100_h29 := (f_h29 100 (by omega)).trans c100_h28
  have c211_h29 := (f_h29 211 (by omega)).trans c211_h28
  have c212_h29 := (f_h29 212 (by omega)).trans c212_h28
  have v101_h29 := v101_h28.keepI (h1 := h29) (by omega) (fun i q1 q2 => f_h29 i (by omega))
  have v109_h29 := v109_h28.keepI (h1 := h29) (by omega) (fun i q1 q2 => f_h29 i (by omega))
  have v117_h29 := v117_h28.keepI (h1 := h29) (by omega) (fun i q1 q2 => f_h29 i (by omega))
  have v125_h29 := v125_h28.keepI (h1 := h29) (by omega) (fun i q1 q2 => f_h29 i (by omega))
  have v199_h29 := v199_h28.keepI (h1 := h29) (by omega) (fun i q1 q2 => f_h29 i (by omega))
  have v201_h29 := v201_h28.keepI (h1 := h29) (by omega) (fun i q1 q2 => f_h29 i (by omega))
  have v204_h29 := v204_h28.keepI (h1 := h29) (by omega) (fun i q1 q2 => f_h29 i (by omega))
  have v207_h29 := v207_h28.keepI (h1 := h29) (by omega) (fun i q1 q2 => f_h29 i (by omega))
  have o_h29 : ∀ j, j < 100 → h29.2 j = h.2 j := fun j hj => (f_h29 j (by omega)).trans (o_h28 j hj)
  have c213_h29 : h29.2 213 = some (.inr (1, [.ref 214, .int 0, .int 0, .int 0])) := k0_h29
  have c214_h29 : h29.2 214 = some (.inl (3, 16, .inl (fun _ => 0))) := k1_h29
  change q_W _ _ _ _ _ _ _ _ 111 [.ref 100] [.ref 213, .ref 100] h29
  refine q_putfF (k := 9) kC_X10 kL_X10_64 rfl (by decide) rfl rfl rfl dX10_init_111 c100_h29 (Nat.le_of_ble_eq_true rfl) ⟨rfl, rfl⟩ rfl ?_
  refine q_setE (P := fun H => q_W _ _ _ _ _ _ _ _ _ _ _ H) (fun h30 s_h30 e_h30 f_h30 => ?_)
  have s_h30 : h30.1 = 215 := s_h30.trans s_h29
  have c211_h30 := (f_h30 211 (by omega)).trans c211_h29
  have c212_h30 := (f_h30 212 (by omega)).trans c212_h29
  have c213_h30 := (f_h30 213 (by omega)).trans c213_h29
  have c214_h30 := (f_h30 214 (by omega)).trans c214_h29
  have v101_h30 := v101_h29.keepI (h1 := h30) (by omega) (fun i q1 q2 => f_h30 i (by omega))
  have v109_h30 := v109_h29.keepI (h1 := h30) (by omega) (fun i q1 q2 => f_h30 i (by omega))
  have v117_h30 := v117_h29.keepI (h1 := h30) (by omega) (fun i q1 q2 => f_h30 i (by omega))
  have v125_h30 := v125_h29.keepI (h1 := h30) (by omega) (fun i q1 q2 => f_h30 i (by omega))
  have v199_h30 := v199_h29.keepI (h1 := h30) (by omega) (fun i q1 q2 => f_h30 i (by omega))
  have v201_h30 := v201_h29.keepI (h1 := h30) (by omega) (fun i q1 q2 => f_h30 i (by omega))
  have v204_h30 := v204_h29.keepI (h1 := h30) (by omega) (fun i q1 q2 => f_h30 i (by omega))
  have v207_h30 := v207_h29.keepI (h1 := h30) (by omega) (fun i q1 q2 => f_h30 i (by omega))
  have o_h30 : ∀ j, j < 100 → h30.2 j = h.2 j := fun j hj => (f_h30 j (by omega)).trans (o_h29 j hj)
  have c100_h30 : h30.2 100 = some (.inr (11, [.ref 101, .ref 109, .ref 117, .ref 125, .ref 199, .ref 201, .ref 204, .ref 207, .ref 211, .ref 213, .int 0, .int 0, .int 0])) := e_h30
  change q_W _ _ _ _ _ _ _ _ 114 [.ref 100] [] h30
  refine q_aload_n (by first | assumption | (rw [q_R0e]; omega)) dX10_init_114 rfl ?_
  refine q_iconst (v := 0) dX10_init_115 rfl ?_
  refine q_putf (k := 10) kC_X10 kL_X10_67 rfl (by decide) rfl dX10_init_116 c100_h30 (Nat.le_of_ble_eq_true rfl) ⟨rfl, rfl⟩ rfl ?_
  refine q_setE (P := fun H => q_W _ _ _ _ _ _ _ _ _ _ _ H) (fun h31 s_h31 e_h31 f_h31 => ?_)
  have s_h31 : h31.1 = 215 := s_h31.trans s_h30
  have c211_h31 := (f_h31 211 (by omega)).trans c211_h30
  have c212_h31 := (f_h31 212 (by omega)).trans c212_h30
  have c213_h31 := (f_h31 213 (by omega)).trans c213_h30
  have c214_h31 := (f_h31 214 (by omega)).trans c214_h30
  have v101_h31 := v101_h30.keepI (h1 := h31) (by omega) (fun i q1 q2 => f_h31 i (by omega))
  have v109_h31 := v109_h30.keepI (h1 := h31) (by omega) (fun i q1 q2 => f_h31 i (by omega))
  have v117_h31 := v117_h30.keepI (h1 := h31) (by omega) (fun i q1 q2 => f_h31 i (by omega))
  have v125_h31 := v125_h30.keepI (h1 := h31) (by omega) (fun i q1 q2 => f_h31 i (by omega))
  have v199_h31 := v199_h30.keepI (h1 := h31) (by omega) (fun i q1 q2 => f_h31 i (by omega))
  have v201_h31 := v201_h30.keepI (h1 := h31) (by omega) (fun i q1 q2 => f_h31 i (by omega))
  have v204_h31 := v204_h30.keepI (h1 := h31) (by omega) (fun i q1 q2 => f_h31 i (by omega))
  have v207_h31 := v207_h30.keepI (h1 := h31) (by omega) (fun i q1 q2 => f_h31 i (by omega))
  have o_h31 : ∀ j, j < 100 → h31.2 j = h.2 j := fun j hj => (f_h31 j (by omega)).trans (o_h30 j hj)
  have c100_h31 : h31.2 100 = some (.inr (11, [.ref 101, .ref 109, .ref 117, .ref 125, .ref 199, .ref 201, .ref 204, .ref 207, .ref 211, .ref 213, .int 0, .int 0, .int 0])) := e_h31
  change q_W _ _ _ _ _ _ _ _ 119 [.ref 100] [] h31
  refine q_aload_n (by first | assumption | (rw [q_R0e]; omega)) dX10_init_119 rfl ?_
  refine q_iconst (v := -1) dX10_init_120 rfl ?_
  refine q_putf (k := 11) kC_X10 kL_X10_71 rfl (by decide) rfl dX10_init_121 c100_h31 (Nat.le_of_ble_eq_true rfl) ⟨rfl, rfl⟩ rfl ?_
  refine q_setE (P := fun H => q_W _ _ _ _ _ _ _ _ _ _ _ H) (fun h32 s_h32 e_h32 f_h32 => ?_)
  have s_h32 : h32.1 = 215 := s_h32.trans s_h31
  have c211_h32 := (f_h32 211 (by omega)).trans c211_h31
  have c212_h32 := (f_h32 212 (by omega)).trans c212_h31
  have c213_h32 := (f_h32 213 (by omega)).trans c213_h31
  have c214_h32 := (f_h32 214 (by omega)).trans c214_h31
  have v101_h32 := v101_h31.keepI (h1 := h32) (by omega) (fun i q1 q2 => f_h32 i (by omega))
  have v109_h32 := v109_h31.keepI (h1 := h32) (by omega) (fun i q1 q2 => f_h32 i (by omega))
  have v117_h32 := v117_h31.keepI (h1 := h32) (by omega) (fun i q1 q2 => f_h32 i (by omega))
  have v125_h32 := v125_h31.keepI (h1 := h32) (by omega) (fun i q1 q2 => f_h32 i (by omega))
  have v199_h32 := v199_h31.keepI (h1 := h32) (by omega) (fun i q1 q2 => f_h32 i (by omega))
  have v201_h32 := v201_h31.keepI (h1 := h32) (by omega) (fun i q1 q2 => f_h32 i (by omega))
  have v204_h32 := v204_h31.keepI (h1 := h32) (by omega) (fun i q1 q2 => f_h32 i (by omega))
  have v207_h32 := v207_h31.keepI (h1 := h32) (by omega) (fun i q1 q2 => f_h32 i (by omega))
  have o_h32 : ∀ j, j < 100 → h32.2 j = h.2 j := fun j hj => (f_h32 j (by omega)).trans (o_h31 j hj)
  have c100_h32 : h32.2 100 = some (.inr (11, [.ref 101, .ref 109, .ref 117, .ref 125, .ref 199, .ref 201, .ref 204, .ref 207, .ref 211, .ref 213, .int 0, .int (-1), .int 0])) := e_h32
  change q_W _ _ _ _ _ _ _ _ 124 [.ref 100] [] h32
  refine q_aload_n (by first | assumption | (rw [q_R0e]; omega)) dX10_init_124 rfl ?_
  refine q_iconst (v := -1) dX10_init_125 rfl ?_
  refine q_putf (k := 12) kC_X10 kL_X10_75 rfl (by decide) rfl dX10_init_126 c100_h32 (Nat.le_of_ble_eq_true rfl) ⟨rfl, rfl⟩ rfl ?_
  refine q_setE (P := fun H => q_W _ _ _ _ _ _ _ _ _ _ _ H) (fun h33 s_h33 e_h33 f_h33 => ?_)
  have s_h33 : h33.1 = 215 := s_h33.trans s_h32
  have c211_h33 := (f_h33 211 (by omega)).trans c211_h32
  have c212_h33 := (f_h33 212 (by omega)).trans c212_h32
  have c213_h33 := (f_h33 213 (by omega)).trans c213_h32
  have c214_h33 := (f_h33 214 (by omega)).trans c214_h32
  have v101_h33 := v101_h32.keepI (h1 := h33) (by omega) (fun i q1 q2 => f_h33 i (by omega))
  have v109_h33 := v109_h32.keepI (h1 := h33) (by omega) (fun i q1 q2 => f_h33 i (by omega))
  have v117_h33 := v117_h32.keepI (h1 := h33) (by omega) (fun i q1 q2 => f_h33 i (by omega))
  have v125_h33 := v125_h32.keepI (h1 := h33) (by omega) (fun i q1 q2 => f_h33 i (by omega))
  have v199_h33 := v199_h32.keepI (h1 := h33) (by omega) (fun i q1 q2 => f_h33 i (by omega))
  have v201_h33 := v201_h32.keepI (h1 := h33) (by omega) (fun i q1 q2 => f_h33 i (by omega))
  have v204_h33 := v204_h32.keepI (h1 := h33) (by omega) (fun i q1 q2 => f_h33 i (by omega))
  have v207_h33 := v207_h32.keepI (h1 := h33) (by omega) (fun i q1 q2 => f_h33 i (by omega))
  have o_h33 : ∀ j, j < 100 → h33.2 j = h.2 j := fun j hj => (f_h33 j (by omega)).trans (o_h32 j hj)
  have c100_h33 : h33.2 100 = some (.inr (11, [.ref 101, .ref 109, .ref 117, .ref 125, .ref 199, .ref 201, .ref 204, .ref 207, .ref 211, .ref 213, .int 0, .int (-1), .int (-1)])) := e_h33
  change q_W _ _ _ _ _ _ _ _ 129 [.ref 100] [] h33
  exact q_return dX10_init_129 rfl (by omega) (by omega) ⟨rfl, s_h33, o_h33, v101_h33, v109_h33, v117_h33, v125_h33, v199_h33, v201_h33, v204_h33, v207_h33, c100_h33, c211_h33, c212_h33, c213_h33, c214_h33⟩
