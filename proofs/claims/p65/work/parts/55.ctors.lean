theorem q_pushE {P : q_H → Prop} {h : q_H} {c : (Nat × vp_A) ⊕ (Nat × List Value)} (k : ∀ h1 : q_H, h1.1 = h.1 + 1 → h1.2 h.1 = some c → (∀ j, j ≠ h.1 → h1.2 j = h.2 j) → P h1) : P (q_push h c) :=
  k _ rfl (by simp [q_push]) (fun j hj => by simp [q_push, hj])
theorem q_setE {P : q_H → Prop} {h : q_H} {i : Nat} {c : (Nat × vp_A) ⊕ (Nat × List Value)} (k : ∀ h1 : q_H, h1.1 = h.1 → h1.2 i = some c → (∀ j, j ≠ i → h1.2 j = h.2 j) → P h1) : P (q_set h i c) :=
  k _ rfl q_set_eq (fun j hj => q_set_ne hj)
set_option maxRecDepth 100000 in
theorem e_X2_init {g : q_G} {h : q_H} {d b : Nat} (hb : q_R0 ≤ b) (s0 : h.1 = b + 1) (c0 : h.2 b = some (.inr (4, [.null, .int 0, .int 0, .int 0, .int 0]))) (hd : 1 ≤ d) : q_Spec g mX2_init d 1 12 [.ref b] h (q_chg (.inl none) (fun h1 => h1.1 = b + 2 ∧ (∀ j, j < b → h1.2 j = h.2 j) ∧ h1.2 (b) = some (.inr (4, [.ref (b + 1), .int 0, .int 0, .int 0, .int 0])) ∧ h1.2 (b + 1) = some (.inl (0, 12, .inl (fun _ => 0))))) := by
  refine q_enter (by decide +kernel) rfl rfl (Nat.le_of_ble_eq_true rfl) (fun hz => ?_)
  change q_W _ _ _ _ _ _ _ _ _ [.ref b] [] _
  refine q_aload_n (by first | assumption | omega) dX2_init_0 rfl ?_
  refine q_objInit (by first | assumption | omega) kL_X2_3 kO_1 kO_2 rfl dX2_init_1 (Nat.le_of_ble_eq_true rfl) (by omega) ?_
  refine q_aload_n (by first | assumption | omega) dX2_init_4 rfl ?_
  refine q_bipush (v := 12) dX2_init_5 rfl ?_
  refine q_newaI (N := 12) kA_int dX2_init_7 (by decide) (by decide) (by decide) (by omega) (by omega) (fun hz => ?_)
  refine q_pushE (P := fun H => q_W _ _ _ _ _ _ _ _ _ _ _ H) (fun h1 s_h1 e_h1 f_h1 => ?_)
  rw [s0] at s_h1 e_h1 f_h1 ⊢
  have s_h1 : h1.1 = b + 2 := by omega
  have c0_h1 := (f_h1 b (by omega)).trans c0
  have o_h1 : ∀ j, j < b → h1.2 j = h.2 j := fun j hj => f_h1 j (by omega)
  change q_W _ _ _ _ _ _ _ _ 9 [.ref b] [.ref (b + 1), .ref b] h1
  refine q_putfF (k := 0) kC_X2 kL_X2_9 rfl (by decide) rfl rfl rfl dX2_init_9 c0_h1 (Nat.le_of_ble_eq_true rfl) ⟨rfl, rfl⟩ rfl ?_
  refine q_setE (P := fun H => q_W _ _ _ _ _ _ _ _ _ _ _ H) (fun h2 s_h2 e_h2 f_h2 => ?_)
  have s_h2 : h2.1 = b + 2 := s_h2.trans s_h1
  have c1_h2 := (f_h2 (b + 1) (by omega)).trans e_h1
  have o_h2 : ∀ j, j < b → h2.2 j = h.2 j := fun j hj => (f_h2 j (by omega)).trans (o_h1 j hj)
  have c0_h2 : h2.2 (b) = some (.inr (4, [.ref (b + 1), .int 0, .int 0, .int 0, .int 0])) := e_h2
  change q_W _ _ _ _ _ _ _ _ 12 [.ref b] [] h2
  refine q_aload_n (by first | assumption | omega) dX2_init_12 rfl ?_
  refine q_iconst (v := 0) dX2_init_13 rfl ?_
  refine q_putf (k := 1) kC_X2 kL_X2_15 rfl (by decide) rfl dX2_init_14 c0_h2 (Nat.le_of_ble_eq_true rfl) ⟨rfl, rfl⟩ rfl ?_
  refine q_setE (P := fun H => q_W _ _ _ _ _ _ _ _ _ _ _ H) (fun h3 s_h3 e_h3 f_h3 => ?_)
  have s_h3 : h3.1 = b + 2 := s_h3.trans s_h2
  have c1_h3 := (f_h3 (b + 1) (by omega)).trans c1_h2
  have o_h3 : ∀ j, j < b → h3.2 j = h.2 j := fun j hj => (f_h3 j (by omega)).trans (o_h2 j hj)
  have c0_h3 : h3.2 (b) = some (.inr (4, [.ref (b + 1), .int 0, .int 0, .int 0, .int 0])) := e_h3
  change q_W _ _ _ _ _ _ _ _ 17 [.ref b] [] h3
  refine q_aload_n (by first | assumption | omega) dX2_init_17 rfl ?_
  refine q_iconst (v := 0) dX2_init_18 rfl ?_
  refine q_putf (k := 2) kC_X2 kL_X2_19 rfl (by decide) rfl dX2_init_19 c0_h3 (Nat.le_of_ble_eq_true rfl) ⟨rfl, rfl⟩ rfl ?_
  refine q_setE (P := fun H => q_W _ _ _ _ _ _ _ _ _ _ _ H) (fun h4 s_h4 e_h4 f_h4 => ?_)
  have s_h4 : h4.1 = b + 2 := s_h4.trans s_h3
  have c1_h4 := (f_h4 (b + 1) (by omega)).trans c1_h3
  have o_h4 : ∀ j, j < b → h4.2 j = h.2 j := fun j hj => (f_h4 j (by omega)).trans (o_h3 j hj)
  have c0_h4 : h4.2 (b) = some (.inr (4, [.ref (b + 1), .int 0, .int 0, .int 0, .int 0])) := e_h4
  change q_W _ _ _ _ _ _ _ _ 22 [.ref b] [] h4
  refine q_aload_n (by first | assumption | omega) dX2_init_22 rfl ?_
  refine q_iconst (v := 0) dX2_init_23 rfl ?_
  refine q_putf (k := 3) kC_X2 kL_X2_22 rfl (by decide) rfl dX2_init_24 c0_h4 (Nat.le_of_ble_eq_true rfl) ⟨rfl, rfl⟩ rfl ?_
  refine q_setE (P := fun H => q_W _ _ _ _ _ _ _ _ _ _ _ H) (fun h5 s_h5 e_h5 f_h5 => ?_)
  have s_h5 : h5.1 = b + 2 := s_h5.trans s_h4
  have c1_h5 := (f_h5 (b + 1) (by omega)).trans c1_h4
  have o_h5 : ∀ j, j < b → h5.2 j = h.2 j := fun j hj => (f_h5 j (by omega)).trans (o_h4 j hj)
  have c0_h5 : h5.2 (b) = some (.inr (4, [.ref (b + 1), .int 0, .int 0, .int 0, .int 0])) := e_h5
  change q_W _ _ _ _ _ _ _ _ 27 [.ref b] [] h5
  refine q_aload_n (by first | assumption | omega) dX2_init_27 rfl ?_
  refine q_iconst (v := 0) dX2_init_28 rfl ?_
  refine q_putf (k := 4) kC_X2 kL_X2_25 rfl (by decide) rfl dX2_init_29 c0_h5 (Nat.le_of_ble_eq_true rfl) ⟨rfl, rfl⟩ rfl ?_
  refine q_setE (P := fun H => q_W _ _ _ _ _ _ _ _ _ _ _ H) (fun h6 s_h6 e_h6 f_h6 => ?_)
  have s_h6 : h6.1 = b + 2 := s_h6.trans s_h5
  have c1_h6 := (f_h6 (b + 1) (by omega)).trans c1_h5
  have o_h6 : ∀ j, j < b → h6.2 j = h.2 j := fun j hj => (f_h6 j (by omega)).trans (o_h5 j hj)
  have c0_h6 : h6.2 (b) = some (.inr (4, [.ref (b + 1), .int 0, .int 0, .int 0, .int 0])) := e_h6
  change q_W _ _ _ _ _ _ _ _ 32 [.ref b] [] h6
  exact q_return dX2_init_32 rfl (by omega) (by omega) ⟨rfl, s_h6, o_h6, c0_h6, c1_h6⟩
set_option maxRecDepth 100000 in
theorem e_X6_init {g : q_G} {h : q_H} {d b : Nat} (hb : q_R0 ≤ b) (s0 : h.1 = b + 1) (c0 : h.2 b = some (.inr (8, [.null, .int 0, .int 0]))) (hd : 1 ≤ d) : q_Spec g mX6_init d 1 8 [.ref b] h (q_chg (.inl none) (fun h1 => h1.1 = b + 2 ∧ (∀ j, j < b → h1.2 j = h.2 j) ∧ h1.2 (b) = some (.inr (8, [.ref (b + 1), .int 0, .int 0])) ∧ h1.2 (b + 1) = some (.inl (0, 8, .inl (fun _ => 0))))) := by
  refine q_enter (by decide +kernel) rfl rfl (Nat.le_of_ble_eq_true rfl) (fun hz => ?_)
  change q_W _ _ _ _ _ _ _ _ _ [.ref b] [] _
  refine q_aload_n (by first | assumption | omega) dX6_init_0 rfl ?_
  refine q_objInit (by first | assumption | omega) kL_X6_3 kO_1 kO_2 rfl dX6_init_1 (Nat.le_of_ble_eq_true rfl) (by omega) ?_
  refine q_aload_n (by first | assumption | omega) dX6_init_4 rfl ?_
  refine q_bipush (v := 8) dX6_init_5 rfl ?_
  refine q_newaI (N := 8) kA_int dX6_init_7 (by decide) (by decide) (by decide) (by omega) (by omega) (fun hz => ?_)
  refine q_pushE (P := fun H => q_W _ _ _ _ _ _ _ _ _ _ _ H) (fun h1 s_h1 e_h1 f_h1 => ?_)
  rw [s0] at s_h1 e_h1 f_h1 ⊢
  have s_h1 : h1.1 = b + 2 := by omega
  have c0_h1 := (f_h1 b (by omega)).trans c0
  have o_h1 : ∀ j, j < b → h1.2 j = h.2 j := fun j hj => f_h1 j (by omega)
  change q_W _ _ _ _ _ _ _ _ 9 [.ref b] [.ref (b + 1), .ref b] h1
  refine q_putfF (k := 0) kC_X6 kL_X6_9 rfl (by decide) rfl rfl rfl dX6_init_9 c0_h1 (Nat.le_of_ble_eq_true rfl) ⟨rfl, rfl⟩ rfl ?_
  refine q_setE (P := fun H => q_W _ _ _ _ _ _ _ _ _ _ _ H) (fun h2 s_h2 e_h2 f_h2 => ?_)
  have s_h2 : h2.1 = b + 2 := s_h2.trans s_h1
  have c1_h2 := (f_h2 (b + 1) (by omega)).trans e_h1
  have o_h2 : ∀ j, j < b → h2.2 j = h.2 j := fun j hj => (f_h2 j (by omega)).trans (o_h1 j hj)
  have c0_h2 : h2.2 (b) = some (.inr (8, [.ref (b + 1), .int 0, .int 0])) := e_h2
  change q_W _ _ _ _ _ _ _ _ 12 [.ref b] [] h2
  refine q_aload_n (by first | assumption | omega) dX6_init_12 rfl ?_
  refine q_iconst (v := 0) dX6_init_13 rfl ?_
  refine q_putf (k := 1) kC_X6 kL_X6_15 rfl (by decide) rfl dX6_init_14 c0_h2 (Nat.le_of_ble_eq_true rfl) ⟨rfl, rfl⟩ rfl ?_
  refine q_setE (P := fun H => q_W _ _ _ _ _ _ _ _ _ _ _ H) (fun h3 s_h3 e_h3 f_h3 => ?_)
  have s_h3 : h3.1 = b + 2 := s_h3.trans s_h2
  have c1_h3 := (f_h3 (b + 1) (by omega)).trans c1_h2
  have o_h3 : ∀ j, j < b → h3.2 j = h.2 j := fun j hj => (f_h3 j (by omega)).trans (o_h2 j hj)
  have c0_h3 : h3.2 (b) = some (.inr (8, [.ref (b + 1), .int 0, .int 0])) := e_h3
  change q_W _ _ _ _ _ _ _ _ 17 [.ref b] [] h3
  refine q_aload_n (by first | assumption | omega) dX6_init_17 rfl ?_
  refine q_iconst (v := 0) dX6_init_18 rfl ?_
  refine q_putf (k := 2) kC_X6 kL_X6_19 rfl (by decide) rfl dX6_init_19 c0_h3 (Nat.le_of_ble_eq_true rfl) ⟨rfl, rfl⟩ rfl ?_
  refine q_setE (P := fun H => q_W _ _ _ _ _ _ _ _ _ _ _ H) (fun h4 s_h4 e_h4 f_h4 => ?_)
  have s_h4 : h4.1 = b + 2 := s_h4.trans s_h3
  have c1_h4 := (f_h4 (b + 1) (by omega)).trans c1_h3
  have o_h4 : ∀ j, j < b → h4.2 j = h.2 j := fun j hj => (f_h4 j (by omega)).trans (o_h3 j hj)
  have c0_h4 : h4.2 (b) = some (.inr (8, [.ref (b + 1), .int 0, .int 0])) := e_h4
  change q_W _ _ _ _ _ _ _ _ 22 [.ref b] [] h4
  exact q_return dX6_init_22 rfl (by omega) (by omega) ⟨rfl, s_h4, o_h4, c0_h4, c1_h4⟩
set_option maxRecDepth 100000 in
theorem e_X4_init {g : q_G} {h : q_H} {d b : Nat} (hb : q_R0 ≤ b) (s0 : h.1 = b + 1) (c0 : h.2 b = some (.inr (6, [.null, .null]))) (hd : 1 ≤ d) : q_Spec g mX4_init d 2 512 [.ref b] h (q_chg (.inl none) (fun h1 => h1.1 = b + 3 ∧ (∀ j, j < b → h1.2 j = h.2 j) ∧ h1.2 (b) = some (.inr (6, [.ref (b + 1), .ref (b + 2)])) ∧ h1.2 (b + 1) = some (.inl (0, 256, .inl (fun _ => 0))) ∧ h1.2 (b + 2) = some (.inl (0, 256, .inl (fun _ => 0))))) := by
  refine q_enter (by decide +kernel) rfl rfl (Nat.le_of_ble_eq_true rfl) (fun hz => ?_)
  change q_W _ _ _ _ _ _ _ _ _ [.ref b] [] _
  refine q_aload_n (by first | assumption | omega) dX4_init_0 rfl ?_
  refine q_objInit (by first | assumption | omega) kL_X4_3 kO_1 kO_2 rfl dX4_init_1 (Nat.le_of_ble_eq_true rfl) (by omega) ?_
  refine q_aload_n (by first | assumption | omega) dX4_init_4 rfl ?_
  refine q_sipush (v := 256) dX4_init_5 rfl ?_
  refine q_newaI (N := 256) kA_int dX4_init_8 (by decide) (by decide) (by decide) (by omega) (by omega) (fun hz => ?_)
  refine q_pushE (P := fun H => q_W _ _ _ _ _ _ _ _ _ _ _ H) (fun h1 s_h1 e_h1 f_h1 => ?_)
  rw [s0] at s_h1 e_h1 f_h1 ⊢
  have s_h1 : h1.1 = b + 2 := by omega
  have c0_h1 := (f_h1 b (by omega)).trans c0
  have o_h1 : ∀ j, j < b → h1.2 j = h.2 j := fun j hj => f_h1 j (by omega)
  change q_W _ _ _ _ _ _ _ _ 10 [.ref b] [.ref (b + 1), .ref b] h1
  refine q_putfF (k := 0) kC_X4 kL_X4_9 rfl (by decide) rfl rfl rfl dX4_init_10 c0_h1 (Nat.le_of_ble_eq_true rfl) ⟨rfl, rfl⟩ rfl ?_
  refine q_setE (P := fun H => q_W _ _ _ _ _ _ _ _ _ _ _ H) (fun h2 s_h2 e_h2 f_h2 => ?_)
  have s_h2 : h2.1 = b + 2 := s_h2.trans s_h1
  have c1_h2 := (f_h2 (b + 1) (by omega)).trans e_h1
  have o_h2 : ∀ j, j < b → h2.2 j = h.2 j := fun j hj => (f_h2 j (by omega)).trans (o_h1 j hj)
  have c0_h2 : h2.2 (b) = some (.inr (6, [.ref (b + 1), .null])) := e_h2
  change q_W _ _ _ _ _ _ _ _ 13 [.ref b] [] h2
  refine q_aload_n (by first | assumption | omega) dX4_init_13 rfl ?_
  refine q_sipush (v := 256) dX4_init_14 rfl ?_
  refine q_newaI (N := 256) kA_int dX4_init_17 (by decide) (by decide) (by decide) (by omega) (by omega) (fun hz => ?_)
  refine q_pushE (P := fun H => q_W _ _ _ _ _ _ _ _ _ _ _ H) (fun h3 s_h3 e_h3 f_h3 => ?_)
  rw [s_h2] at s_h3 e_h3 f_h3 ⊢
  have s_h3 : h3.1 = b + 3 := by omega
  have c0_h3 := (f_h3 b (by omega)).trans c0_h2
  have c1_h3 := (f_h3 (b + 1) (by omega)).trans c1_h2
  have o_h3 : ∀ j, j < b → h3.2 j = h.2 j := fun j hj => (f_h3 j (by omega)).trans (o_h2 j hj)
  change q_W _ _ _ _ _ _ _ _ 19 [.ref b] [.ref (b + 2), .ref b] h3
  refine q_putfF (k := 1) kC_X4 kL_X4_15 rfl (by decide) rfl rfl rfl dX4_init_19 c0_h3 (Nat.le_of_ble_eq_true rfl) ⟨rfl, rfl⟩ rfl ?_
  refine q_setE (P := fun H => q_W _ _ _ _ _ _ _ _ _ _ _ H) (fun h4 s_h4 e_h4 f_h4 => ?_)
  have s_h4 : h4.1 = b + 3 := s_h4.trans s_h3
  have c1_h4 := (f_h4 (b + 1) (by omega)).trans c1_h3
  have c2_h4 := (f_h4 (b + 2) (by omega)).trans e_h3
  have o_h4 : ∀ j, j < b → h4.2 j = h.2 j := fun j hj => (f_h4 j (by omega)).trans (o_h3 j hj)
  have c0_h4 : h4.2 (b) = some (.inr (6, [.ref (b + 1), .ref (b + 2)])) := e_h4
  change q_W _ _ _ _ _ _ _ _ 22 [.ref b] [] h4
  exact q_return dX4_init_22 rfl (by omega) (by omega) ⟨rfl, s_h4, o_h4, c0_h4, c1_h4, c2_h4⟩
set_option maxRecDepth 100000 in
theorem e_X3_init {g : q_G} {h : q_H} {d b : Nat} (hb : q_R0 ≤ b) (s0 : h.1 = b + 1) (c0 : h.2 b = some (.inr (5, [.null, .null, .int 0]))) (hd : 1 ≤ d) : q_Spec g mX3_init d 2 512 [.ref b] h (q_chg (.inl none) (fun h1 => h1.1 = b + 3 ∧ (∀ j, j < b → h1.2 j = h.2 j) ∧ h1.2 (b) = some (.inr (5, [.ref (b + 1), .ref (b + 2), .int 1])) ∧ h1.2 (b + 1) = some (.inl (1, 256, .inl (fun _ => 0))) ∧ h1.2 (b + 2) = some (.inl (1, 256, .inl (fun _ => 0))))) := by
  refine q_enter (by decide +kernel) rfl rfl (Nat.le_of_ble_eq_true rfl) (fun hz => ?_)
  change q_W _ _ _ _ _ _ _ _ _ [.ref b] [] _
  refine q_aload_n (by first | assumption | omega) dX3_init_0 rfl ?_
  refine q_objInit (by first | assumption | omega) kL_X3_3 kO_1 kO_2 rfl dX3_init_1 (Nat.le_of_ble_eq_true rfl) (by omega) ?_
  refine q_aload_n (by first | assumption | omega) dX3_init_4 rfl ?_
  refine q_sipush (v := 256) dX3_init_5 rfl ?_
  refine q_newaZ (N := 256) kA_boolean dX3_init_8 (by decide) (by decide) (by decide) (by omega) (by omega) (fun hz => ?_)
  refine q_pushE (P := fun H => q_W _ _ _ _ _ _ _ _ _ _ _ H) (fun h1 s_h1 e_h1 f_h1 => ?_)
  rw [s0] at s_h1 e_h1 f_h1 ⊢
  have s_h1 : h1.1 = b + 2 := by omega
  have c0_h1 := (f_h1 b (by omega)).trans c0
  have o_h1 : ∀ j, j < b → h1.2 j = h.2 j := fun j hj => f_h1 j (by omega)
  change q_W _ _ _ _ _ _ _ _ 10 [.ref b] [.ref (b + 1), .ref b] h1
  refine q_putfF (k := 0) kC_X3 kL_X3_9 rfl (by decide) rfl rfl rfl dX3_init_10 c0_h1 (Nat.le_of_ble_eq_true rfl) ⟨rfl, rfl⟩ rfl ?_
  refine q_setE (P := fun H => q_W _ _ _ _ _ _ _ _ _ _ _ H) (fun h2 s_h2 e_h2 f_h2 => ?_)
  have s_h2 : h2.1 = b + 2 := s_h2.trans s_h1
  have c1_h2 := (f_h2 (b + 1) (by omega)).trans e_h1
  have o_h2 : ∀ j, j < b → h2.2 j = h.2 j := fun j hj => (f_h2 j (by omega)).trans (o_h1 j hj)
  have c0_h2 : h2.2 (b) = some (.inr (5, [.ref (b + 1), .null, .int 0])) := e_h2
  change q_W _ _ _ _ _ _ _ _ 13 [.ref b] [] h2
  refine q_aload_n (by first | assumption | omega) dX3_init_13 rfl ?_
  refine q_sipush (v := 256) dX3_init_14 rfl ?_
  refine q_newaZ (N := 256) kA_boolean dX3_init_17 (by decide) (by decide) (by decide) (by omega) (by omega) (fun hz => ?_)
  refine q_pushE (P := fun H => q_W _ _ _ _ _ _ _ _ _ _ _ H) (fun h3 s_h3 e_h3 f_h3 => ?_)
  rw [s_h2] at s_h3 e_h3 f_h3 ⊢
  have s_h3 : h3.1 = b + 3 := by omega
  have c0_h3 := (f_h3 b (by omega)).trans c0_h2
  have c1_h3 := (f_h3 (b + 1) (by omega)).trans c1_h2
  have o_h3 : ∀ j, j < b → h3.2 j = h.2 j := fun j hj => (f_h3 j (by omega)).trans (o_h2 j hj)
  change q_W _ _ _ _ _ _ _ _ 19 [.ref b] [.ref (b + 2), .ref b] h3
  refine q_putfF (k := 1) kC_X3 kL_X3_15 rfl (by decide) rfl rfl rfl dX3_init_19 c0_h3 (Nat.le_of_ble_eq_true rfl) ⟨rfl, rfl⟩ rfl ?_
  refine q_setE (P := fun H => q_W _ _ _ _ _ _ _ _ _ _ _ H) (fun h4 s_h4 e_h4 f_h4 => ?_)
  have s_h4 : h4.1 = b + 3 := s_h4.trans s_h3
  have c1_h4 := (f_h4 (b + 1) (by omega)).trans c1_h3
  have c2_h4 := (f_h4 (b + 2) (by omega)).trans e_h3
  have o_h4 : ∀ j, j < b → h4.2 j = h.2 j := fun j hj => (f_h4 j (by omega)).trans (o_h3 j hj)
  have c0_h4 : h4.2 (b) = some (.inr (5, [.ref (b + 1), .ref (b + 2), .int 0])) := e_h4
  change q_W _ _ _ _ _ _ _ _ 22 [.ref b] [] h4
  refine q_aload_n (by first | assumption | omega) dX3_init_22 rfl ?_
  refine q_iconst (v := 1) dX3_init_23 rfl ?_
  refine q_putf (k := 2) kC_X3 kL_X3_18 rfl (by decide) rfl dX3_init_24 c0_h4 (Nat.le_of_ble_eq_true rfl) ⟨rfl, rfl⟩ rfl ?_
  refine q_setE (P := fun H => q_W _ _ _ _ _ _ _ _ _ _ _ H) (fun h5 s_h5 e_h5 f_h5 => ?_)
  have s_h5 : h5.1 = b + 3 := s_h5.trans s_h4
  have c1_h5 := (f_h5 (b + 1) (by omega)).trans c1_h4
  have c2_h5 := (f_h5 (b + 2) (by omega)).trans c2_h4
  have o_h5 : ∀ j, j < b → h5.2 j = h.2 j := fun j hj => (f_h5 j (by omega)).trans (o_h4 j hj)
  have c0_h5 : h5.2 (b) = some (.inr (5, [.ref (b + 1), .ref (b + 2), .int 1])) := e_h5
  change q_W _ _ _ _ _ _ _ _ 27 [.ref b] [] h5
  exact q_return dX3_init_27 rfl (by omega) (by omega) ⟨rfl, s_h5, o_h5, c0_h5, c1_h5, c2_h5⟩
set_option maxRecDepth 100000 in
theorem e_X7_init {g : q_G} {h : q_H} {d b : Nat} (hb : q_R0 ≤ b) (s0 : h.1 = b + 1) (c0 : h.2 b = some (.inr (9, [.null, .null, .null, .int 0, .int 0, .int 0]))) (hd : 1 ≤ d) : q_Spec g mX7_init d 3 48 [.ref b] h (q_chg (.inl none) (fun h1 => h1.1 = b + 4 ∧ (∀ j, j < b → h1.2 j = h.2 j) ∧ h1.2 (b) = some (.inr (9, [.ref (b + 1), .ref (b + 2), .ref (b + 3), .int 0, .int 0, .int 0])) ∧ h1.2 (b + 1) = some (.inl (0, 16, .inl (fun _ => 0))) ∧ h1.2 (b + 2) = some (.inl (0, 16, .inl (fun _ => 0))) ∧ h1.2 (b + 3) = some (.inl (0, 16, .inl (fun _ => 0))))) := by
  refine q_enter (by decide +kernel) rfl rfl (Nat.le_of_ble_eq_true rfl) (fun hz => ?_)
  change q_W _ _ _ _ _ _ _ _ _ [.ref b] [] _
  refine q_aload_n (by first | assumption | omega) dX7_init_0 rfl ?_
  refine q_objInit (by first | assumption | omega) kL_X7_3 kO_1 kO_2 rfl dX7_init_1 (Nat.le_of_ble_eq_true rfl) (by omega) ?_
  refine q_aload_n (by first | assumption | omega) dX7_init_4 rfl ?_
  refine q_bipush (v := 16) dX7_init_5 rfl ?_
  refine q_newaI (N := 16) kA_int dX7_init_7 (by decide) (by decide) (by decide) (by omega) (by omega) (fun hz => ?_)
  refine q_pushE (P := fun H => q_W _ _ _ _ _ _ _ _ _ _ _ H) (fun h1 s_h1 e_h1 f_h1 => ?_)
  rw [s0] at s_h1 e_h1 f_h1 ⊢
  have s_h1 : h1.1 = b + 2 := by omega
  have c0_h1 := (f_h1 b (by omega)).trans c0
  have o_h1 : ∀ j, j < b → h1.2 j = h.2 j := fun j hj => f_h1 j (by omega)
  change q_W _ _ _ _ _ _ _ _ 9 [.ref b] [.ref (b + 1), .ref b] h1
  refine q_putfF (k := 0) kC_X7 kL_X7_11 rfl (by decide) rfl rfl rfl dX7_init_9 c0_h1 (Nat.le_of_ble_eq_true rfl) ⟨rfl, rfl⟩ rfl ?_
  refine q_setE (P := fun H => q_W _ _ _ _ _ _ _ _ _ _ _ H) (fun h2 s_h2 e_h2 f_h2 => ?_)
  have s_h2 : h2.1 = b + 2 := s_h2.trans s_h1
  have c1_h2 := (f_h2 (b + 1) (by omega)).trans e_h1
  have o_h2 : ∀ j, j < b → h2.2 j = h.2 j := fun j hj => (f_h2 j (by omega)).trans (o_h1 j hj)
  have c0_h2 : h2.2 (b) = some (.inr (9, [.ref (b + 1), .null, .null, .int 0, .int 0, .int 0])) := e_h2
  change q_W _ _ _ _ _ _ _ _ 12 [.ref b] [] h2
  refine q_aload_n (by first | assumption | omega) dX7_init_12 rfl ?_
  refine q_bipush (v := 16) dX7_init_13 rfl ?_
  refine q_newaI (N := 16) kA_int dX7_init_15 (by decide) (by decide) (by decide) (by omega) (by omega) (fun hz => ?_)
  refine q_pushE (P := fun H => q_W _ _ _ _ _ _ _ _ _ _ _ H) (fun h3 s_h3 e_h3 f_h3 => ?_)
  rw [s_h2] at s_h3 e_h3 f_h3 ⊢
  have s_h3 : h3.1 = b + 3 := by omega
  have c0_h3 := (f_h3 b (by omega)).trans c0_h2
  have c1_h3 := (f_h3 (b + 1) (by omega)).trans c1_h2
  have o_h3 : ∀ j, j < b → h3.2 j = h.2 j := fun j hj => (f_h3 j (by omega)).trans (o_h2 j hj)
  change q_W _ _ _ _ _ _ _ _ 17 [.ref b] [.ref (b + 2), .ref b] h3
  refine q_putfF (k := 1) kC_X7 kL_X7_15 rfl (by decide) rfl rfl rfl dX7_init_17 c0_h3 (Nat.le_of_ble_eq_true rfl) ⟨rfl, rfl⟩ rfl ?_
  refine q_setE (P := fun H => q_W _ _ _ _ _ _ _ _ _ _ _ H) (fun h4 s_h4 e_h4 f_h4 => ?_)
  have s_h4 : h4.1 = b + 3 := s_h4.trans s_h3
  have c1_h4 := (f_h4 (b + 1) (by omega)).trans c1_h3
  have c2_h4 := (f_h4 (b + 2) (by omega)).trans e_h3
  have o_h4 : ∀ j, j < b → h4.2 j = h.2 j := fun j hj => (f_h4 j (by omega)).trans (o_h3 j hj)
  have c0_h4 : h4.2 (b) = some (.inr (9, [.ref (b + 1), .ref (b + 2), .null, .int 0, .int 0, .int 0])) := e_h4
  change q_W _ _ _ _ _ _ _ _ 20 [.ref b] [] h4
  refine q_aload_n (by first | assumption | omega) dX7_init_20 rfl ?_
  refine q_bipush (v := 16) dX7_init_21 rfl ?_
  refine q_newaI (N := 16) kA_int dX7_init_23 (by decide) (by decide) (by decide) (by omega) (by omega) (fun hz => ?_)
  refine q_pushE (P := fun H => q_W _ _ _ _ _ _ _ _ _ _ _ H) (fun h5 s_h5 e_h5 f_h5 => ?_)
  rw [s_h4] at s_h5 e_h5 f_h5 ⊢
  have s_h5 : h5.1 = b + 4 := by omega
  have c0_h5 := (f_h5 b (by omega)).trans c0_h4
  have c1_h5 := (f_h5 (b + 1) (by omega)).trans c1_h4
  have c2_h5 := (f_h5 (b + 2) (by omega)).trans c2_h4
  have o_h5 : ∀ j, j < b → h5.2 j = h.2 j := fun j hj => (f_h5 j (by omega)).trans (o_h4 j hj)
  change q_W _ _ _ _ _ _ _ _ 25 [.ref b] [.ref (b + 3), .ref b] h5
  refine q_putfF (k := 2) kC_X7 kL_X7_18 rfl (by decide) rfl rfl rfl dX7_init_25 c0_h5 (Nat.le_of_ble_eq_true rfl) ⟨rfl, rfl⟩ rfl ?_
  refine q_setE (P := fun H => q_W _ _ _ _ _ _ _ _ _ _ _ H) (fun h6 s_h6 e_h6 f_h6 => ?_)
  have s_h6 : h6.1 = b + 4 := s_h6.trans s_h5
  have c1_h6 := (f_h6 (b + 1) (by omega)).trans c1_h5
  have c2_h6 := (f_h6 (b + 2) (by omega)).trans c2_h5
  have c3_h6 := (f_h6 (b + 3) (by omega)).trans e_h5
  have o_h6 : ∀ j, j < b → h6.2 j = h.2 j := fun j hj => (f_h6 j (by omega)).trans (o_h5 j hj)
  have c0_h6 : h6.2 (b) = some (.inr (9, [.ref (b + 1), .ref (b + 2), .ref (b + 3), .int 0, .int 0, .int 0])) := e_h6
  change q_W _ _ _ _ _ _ _ _ 28 [.ref b] [] h6
  refine q_aload_n (by first | assumption | omega) dX7_init_28 rfl ?_
  refine q_iconst (v := 0) dX7_init_29 rfl ?_
  refine q_putf (k := 3) kC_X7 kL_X7_21 rfl (by decide) rfl dX7_init_30 c0_h6 (Nat.le_of_ble_eq_true rfl) ⟨rfl, rfl⟩ rfl ?_
  refine q_setE (P := fun H => q_W _ _ _ _ _ _ _ _ _ _ _ H) (fun h7 s_h7 e_h7 f_h7 => ?_)
  have s_h7 : h7.1 = b + 4 := s_h7.trans s_h6
  have c1_h7 := (f_h7 (b + 1) (by omega)).trans c1_h6
  have c2_h7 := (f_h7 (b + 2) (by omega)).trans c2_h6
  have c3_h7 := (f_h7 (b + 3) (by omega)).trans c3_h6
  have o_h7 : ∀ j, j < b → h7.2 j = h.2 j := fun j hj => (f_h7 j (by omega)).trans (o_h6 j hj)
  have c0_h7 : h7.2 (b) = some (.inr (9, [.ref (b + 1), .ref (b + 2), .ref (b + 3), .int 0, .int 0, .int 0])) := e_h7
  change q_W _ _ _ _ _ _ _ _ 33 [.ref b] [] h7
  refine q_aload_n (by first | assumption | omega) dX7_init_33 rfl ?_
  refine q_iconst (v := 0) dX7_init_34 rfl ?_
  refine q_putf (k := 4) kC_X7 kL_X7_25 rfl (by decide) rfl dX7_init_35 c0_h7 (Nat.le_of_ble_eq_true rfl) ⟨rfl, rfl⟩ rfl ?_
  refine q_setE (P := fun H => q_W _ _ _ _ _ _ _ _ _ _ _ H) (fun h8 s_h8 e_h8 f_h8 => ?_)
  have s_h8 : h8.1 = b + 4 := s_h8.trans s_h7
  have c1_h8 := (f_h8 (b + 1) (by omega)).trans c1_h7
  have c2_h8 := (f_h8 (b + 2) (by omega)).trans c2_h7
  have c3_h8 := (f_h8 (b + 3) (by omega)).trans c3_h7
  have o_h8 : ∀ j, j < b → h8.2 j = h.2 j := fun j hj => (f_h8 j (by omega)).trans (o_h7 j hj)
  have c0_h8 : h8.2 (b) = some (.inr (9, [.ref (b + 1), .ref (b + 2), .ref (b + 3), .int 0, .int 0, .int 0])) := e_h8
  change q_W _ _ _ _ _ _ _ _ 38 [.ref b] [] h8
  refine q_aload_n (by first | assumption | omega) dX7_init_38 rfl ?_
  refine q_iconst (v := 0) dX7_init_39 rfl ?_
  refine q_putf (k := 5) kC_X7 kL_X7_28 rfl (by decide) rfl dX7_init_40 c0_h8 (Nat.le_of_ble_eq_true rfl) ⟨rfl, rfl⟩ rfl ?_
  refine q_setE (P := fun H => q_W _ _ _ _ _ _ _ _ _ _ _ H) (fun h9 s_h9 e_h9 f_h9 => ?_)
  have s_h9 : h9.1 = b + 4 := s_h9.trans s_h8
  have c1_h9 := (f_h9 (b + 1) (by omega)).trans c1_h8
  have c2_h9 := (f_h9 (b + 2) (by omega)).trans c2_h8
  have c3_h9 := (f_h9 (b + 3) (by omega)).trans c3_h8
  have o_h9 : ∀ j, j < b → h9.2 j = h.2 j := fun j hj => (f_h9 j (by omega)).trans (o_h8 j hj)
  have c0_h9 : h9.2 (b) = some (.inr (9, [.ref (b + 1), .ref (b + 2), .ref (b + 3), .int 0, .int 0, .int 0])) := e_h9
  change q_W _ _ _ _ _ _ _ _ 43 [.ref b] [] h9
  exact q_return dX7_init_43 rfl (by omega) (by omega) ⟨rfl, s_h9, o_h9, c0_h9, c1_h9, c2_h9, c3_h9⟩
set_option maxRecDepth 100000 in
theorem e_X8_init {g : q_G} {h : q_H} {d b : Nat} (hb : q_R0 ≤ b) (s0 : h.1 = b + 1) (c0 : h.2 b = some (.inr (10, [.null, .null, .null, .null, .null, .null, .int 0, .int 0, .int 0]))) (hd : 2 ≤ d) : q_Spec g mX8_init d 7 57 [.ref b] h (q_chg (.inl none) (fun h1 => h1.1 = b + 8 ∧ (∀ j, j < b → h1.2 j = h.2 j) ∧ h1.2 (b) = some (.inr (10, [.ref (b + 1), .ref (b + 2), .ref (b + 3), .ref (b + 4), .ref (b + 5), .ref (b + 6), .int 0, .int 0, .int 0])) ∧ h1.2 (b + 1) = some (.inl (0, 8, .inl (fun _ => 0))) ∧ h1.2 (b + 2) = some (.inl (0, 8, .inl (fun _ => 0))) ∧ h1.2 (b + 3) = some (.inl (0, 8, .inl (fun _ => 0))) ∧ h1.2 (b + 4) = some (.inl (0, 8, .inl (fun _ => 0))) ∧ h1.2 (b + 5) = some (.inl (0, 8, .inl (fun _ => 0))) ∧ h1.2 (b + 6) = some (.inr (4, [.ref (b + 7), .int 0, .int 0, .int 0, .int 0])) ∧ h1.2 (b + 7) = some (.inl (0, 12, .inl (fun _ => 0))))) := by
  refine q_enter (by decide +kernel) rfl rfl (Nat.le_of_ble_eq_true rfl) (fun hz => ?_)
  change q_W _ _ _ _ _ _ _ _ _ [.ref b] [] _
  refine q_aload_n (by first | assumption | omega) dX8_init_0 rfl ?_
  refine q_objInit (by first | assumption | omega) kL_X8_3 kO_1 kO_2 rfl dX8_init_1 (Nat.le_of_ble_eq_true rfl) (by omega) ?_
  refine q_aload_n (by first | assumption | omega) dX8_init_4 rfl ?_
  refine q_bipush (v := 8) dX8_init_5 rfl ?_
  refine q_newaI (N := 8) kA_int dX8_init_7 (by decide) (by decide) (by decide) (by omega) (by omega) (fun hz => ?_)
  refine q_pushE (P := fun H => q_W _ _ _ _ _ _ _ _ _ _ _ H) (fun h1 s_h1 e_h1 f_h1 => ?_)
  rw [s0] at s_h1 e_h1 f_h1 ⊢
  have s_h1 : h1.1 = b + 2 := by omega
  have c0_h1 := (f_h1 b (by omega)).trans c0
  have o_h1 : ∀ j, j < b → h1.2 j = h.2 j := fun j hj => f_h1 j (by omega)
  change q_W _ _ _ _ _ _ _ _ 9 [.ref b] [.ref (b + 1), .ref b] h1
  refine q_putfF (k := 0) kC_X8 kL_X8_9 rfl (by decide) rfl rfl rfl dX8_init_9 c0_h1 (Nat.le_of_ble_eq_true rfl) ⟨rfl, rfl⟩ rfl ?_
  refine q_setE (P := fun H => q_W _ _ _ _ _ _ _ _ _ _ _ H) (fun h2 s_h2 e_h2 f_h2 => ?_)
  have s_h2 : h2.1 = b + 2 := s_h2.trans s_h1
  have c1_h2 := (f_h2 (b + 1) (by omega)).trans e_h1
  have o_h2 : ∀ j, j < b → h2.2 j = h.2 j := fun j hj => (f_h2 j (by omega)).trans (o_h1 j hj)
  have c0_h2 : h2.2 (b) = some (.inr (10, [.ref (b + 1), .null, .null, .null, .null, .null, .int 0, .int 0, .int 0])) := e_h2
  change q_W _ _ _ _ _ _ _ _ 12 [.ref b] [] h2
  refine q_aload_n (by first | assumption | omega) dX8_init_12 rfl ?_
  refine q_bipush (v := 8) dX8_init_13 rfl ?_
  refine q_newaI (N := 8) kA_int dX8_init_15 (by decide) (by decide) (by decide) (by omega) (by omega) (fun hz => ?_)
  refine q_pushE (P := fun H => q_W _ _ _ _ _ _ _ _ _ _ _ H) (fun h3 s_h3 e_h3 f_h3 => ?_)
  rw [s_h2] at s_h3 e_h3 f_h3 ⊢
  have s_h3 : h3.1 = b + 3 := by omega
  have c0_h3 := (f_h3 b (by omega)).trans c0_h2
  have c1_h3 := (f_h3 (b + 1) (by omega)).trans c1_h2
  have o_h3 : ∀ j, j < b → h3.2 j = h.2 j := fun j hj => (f_h3 j (by omega)).trans (o_h2 j hj)
  change q_W _ _ _ _ _ _ _ _ 17 [.ref b] [.ref (b + 2), .ref b] h3
  refine q_putfF (k := 1) kC_X8 kL_X8_15 rfl (by decide) rfl rfl rfl dX8_init_17 c0_h3 (Nat.le_of_ble_eq_true rfl) ⟨rfl, rfl⟩ rfl ?_
  refine q_setE (P := fun H => q_W _ _ _ _ _ _ _ _ _ _ _ H) (fun h4 s_h4 e_h4 f_h4 => ?_)
  have s_h4 : h4.1 = b + 3 := s_h4.trans s_h3
  have c1_h4 := (f_h4 (b + 1) (by omega)).trans c1_h3
  have c2_h4 := (f_h4 (b + 2) (by omega)).trans e_h3
  have o_h4 : ∀ j, j < b → h4.2 j = h.2 j := fun j hj => (f_h4 j (by omega)).trans (o_h3 j hj)
  have c0_h4 : h4.2 (b) = some (.inr (10, [.ref (b + 1), .ref (b + 2), .null, .null, .null, .null, .int 0, .int 0, .int 0])) := e_h4
  change q_W _ _ _ _ _ _ _ _ 20 [.ref b] [] h4
  refine q_aload_n (by first | assumption | omega) dX8_init_20 rfl ?_
  refine q_bipush (v := 8) dX8_init_21 rfl ?_
  refine q_newaI (N := 8) kA_int dX8_init_23 (by decide) (by decide) (by decide) (by omega) (by omega) (fun hz => ?_)
  refine q_pushE (P := fun H => q_W _ _ _ _ _ _ _ _ _ _ _ H) (fun h5 s_h5 e_h5 f_h5 => ?_)
  rw [s_h4] at s_h5 e_h5 f_h5 ⊢
  have s_h5 : h5.1 = b + 4 := by omega
  have c0_h5 := (f_h5 b (by omega)).trans c0_h4
  have c1_h5 := (f_h5 (b + 1) (by omega)).trans c1_h4
  have c2_h5 := (f_h5 (b + 2) (by omega)).trans c2_h4
  have o_h5 : ∀ j, j < b → h5.2 j = h.2 j := fun j hj => (f_h5 j (by omega)).trans (o_h4 j hj)
  change q_W _ _ _ _ _ _ _ _ 25 [.ref b] [.ref (b + 3), .ref b] h5
  refine q_putfF (k := 2) kC_X8 kL_X8_18 rfl (by decide) rfl rfl rfl dX8_init_25 c0_h5 (Nat.le_of_ble_eq_true rfl) ⟨rfl, rfl⟩ rfl ?_
  refine q_setE (P := fun H => q_W _ _ _ _ _ _ _ _ _ _ _ H) (fun h6 s_h6 e_h6 f_h6 => ?_)
  have s_h6 : h6.1 = b + 4 := s_h6.trans s_h5
  have c1_h6 := (f_h6 (b + 1) (by omega)).trans c1_h5
  have c2_h6 := (f_h6 (b + 2) (by omega)).trans c2_h5
  have c3_h6 := (f_h6 (b + 3) (by omega)).trans e_h5
  have o_h6 : ∀ j, j < b → h6.2 j = h.2 j := fun j hj => (f_h6 j (by omega)).trans (o_h5 j hj)
  have c0_h6 : h6.2 (b) = some (.inr (10, [.ref (b + 1), .ref (b + 2), .ref (b + 3), .null, .null, .null, .int 0, .int 0, .int 0])) := e_h6
  change q_W _ _ _ _ _ _ _ _ 28 [.ref b] [] h6
  refine q_aload_n (by first | assumption | omega) dX8_init_28 rfl ?_
  refine q_bipush (v := 8) dX8_init_29 rfl ?_
  refine q_newaI (N := 8) kA_int dX8_init_31 (by decide) (by decide) (by decide) (by omega) (by omega) (fun hz => ?_)
  refine q_pushE (P := fun H => q_W _ _ _ _ _ _ _ _ _ _ _ H) (fun h7 s_h7 e_h7 f_h7 => ?_)
  rw [s_h6] at s_h7 e_h7 f_h7 ⊢
  have s_h7 : h7.1 = b + 5 := by omega
  have c0_h7 := (f_h7 b (by omega)).trans c0_h6
  have c1_h7 := (f_h7 (b + 1) (by omega)).trans c1_h6
  have c2_h7 := (f_h7 (b + 2) (by omega)).trans c2_h6
  have c3_h7 := (f_h7 (b + 3) (by omega)).trans c3_h6
  have o_h7 : ∀ j, j < b → h7.2 j = h.2 j := fun j hj => (f_h7 j (by omega)).trans (o_h6 j hj)
  change q_W _ _ _ _ _ _ _ _ 33 [.ref b] [.ref (b + 4), .ref b] h7
  refine q_putfF (k := 3) kC_X8 kL_X8_21 rfl (by decide) rfl rfl rfl dX8_init_33 c0_h7 (Nat.le_of_ble_eq_true rfl) ⟨rfl, rfl⟩ rfl ?_
  refine q_setE (P := fun H => q_W _ _ _ _ _ _ _ _ _ _ _ H) (fun h8 s_h8 e_h8 f_h8 => ?_)
  have s_h8 : h8.1 = b + 5 := s_h8.trans s_h7
  have c1_h8 := (f_h8 (b + 1) (by omega)).trans c1_h7
  have c2_h8 := (f_h8 (b + 2) (by omega)).trans c2_h7
  have c3_h8 := (f_h8 (b + 3) (by omega)).trans c3_h7
  have c4_h8 := (f_h8 (b + 4) (by omega)).trans e_h7
  have o_h8 : ∀ j, j < b → h8.2 j = h.2 j := fun j hj => (f_h8 j (by omega)).trans (o_h7 j hj)
  have c0_h8 : h8.2 (b) = some (.inr (10, [.ref (b + 1), .ref (b + 2), .ref (b + 3), .ref (b + 4), .null, .null, .int 0, .int 0, .int 0])) := e_h8
  change q_W _ _ _ _ _ _ _ _ 36 [.ref b] [] h8
  refine q_aload_n (by first | assumption | omega) dX8_init_36 rfl ?_
  refine q_bipush (v := 8) dX8_init_37 rfl ?_
  refine q_newaI (N := 8) kA_int dX8_init_39 (by decide) (by decide) (by decide) (by omega) (by omega) (fun hz => ?_)
  refine q_pushE (P := fun H => q_W _ _ _ _ _ _ _ _ _ _ _ H) (fun h9 s_h9 e_h9 f_h9 => ?_)
  rw [s_h8] at s_h9 e_h9 f_h9 ⊢
  have s_h9 : h9.1 = b + 6 := by omega
  have c0_h9 := (f_h9 b (by omega)).trans c0_h8
  have c1_h9 := (f_h9 (b + 1) (by omega)).trans c1_h8
  have c2_h9 := (f_h9 (b + 2) (by omega)).trans c2_h8
  have c3_h9 := (f_h9 (b + 3) (by omega)).trans c3_h8
  have c4_h9 := (f_h9 (b + 4) (by omega)).trans c4_h8
  have o_h9 : ∀ j, j < b → h9.2 j = h.2 j := fun j hj => (f_h9 j (by omega)).trans (o_h8 j hj)
  change q_W _ _ _ _ _ _ _ _ 41 [.ref b] [.ref (b + 5), .ref b] h9
  refine q_putfF (k := 4) kC_X8 kL_X8_24 rfl (by decide) rfl rfl rfl dX8_init_41 c0_h9 (Nat.le_of_ble_eq_true rfl) ⟨rfl, rfl⟩ rfl ?_
  refine q_setE (P := fun H => q_W _ _ _ _ _ _ _ _ _ _ _ H) (fun h10 s_h10 e_h10 f_h10 => ?_)
  have s_h10 : h10.1 = b + 6 := s_h10.trans s_h9
  have c1_h10 := (f_h10 (b + 1) (by omega)).trans c1_h9
  have c2_h10 := (f_h10 (b + 2) (by omega)).trans c2_h9
  have c3_h10 := (f_h10 (b + 3) (by omega)).trans c3_h9
  have c4_h10 := (f_h10 (b + 4) (by omega)).trans c4_h9
  have c5_h10 := (f_h10 (b + 5) (by omega)).trans e_h9
  have o_h10 : ∀ j, j < b → h10.2 j = h.2 j := fun j hj => (f_h10 j (by omega)).trans (o_h9 j hj)
  have c0_h10 : h10.2 (b) = some (.inr (10, [.ref (b + 1), .ref (b + 2), .ref (b + 3), .ref (b + 4), .ref (b + 5), .null, .int 0, .int 0, .int 0])) := e_h10
  change q_W _ _ _ _ _ _ _ _ 44 [.ref b] [] h10
  refine q_aload_n (by first | assumption | omega) dX8_init_44 rfl ?_
  refine q_new (fs := [.null, .int 0, .int 0, .int 0, .int 0]) kC_X2 kL_X8_27 kV_X2 kJ_X2 rfl dX8_init_45 (by intro j hj; have hj9 : j = 0 ∨ j = 1 ∨ j = 2 ∨ j = 3 ∨ j = 4 := (by omega); rcases hj9 with rfl | rfl | rfl | rfl | rfl <;> rfl) (by omega) (by omega) (fun hz => ?_)
  refine q_pushE (P := fun H => q_W _ _ _ _ _ _ _ _ _ _ _ H) (fun h11 s_h11 e_h11 f_h11 => ?_)
  rw [s_h10] at s_h11 e_h11 f_h11 ⊢
  have s_h11 : h11.1 = b + 7 := by omega
  have c0_h11 := (f_h11 b (by omega)).trans c0_h10
  have c1_h11 := (f_h11 (b + 1) (by omega)).trans c1_h10
  have c2_h11 := (f_h11 (b + 2) (by omega)).trans c2_h10
  have c3_h11 := (f_h11 (b + 3) (by omega)).trans c3_h10
  have c4_h11 := (f_h11 (b + 4) (by omega)).trans c4_h10
  have c5_h11 := (f_h11 (b + 5) (by omega)).trans c5_h10
  have o_h11 : ∀ j, j < b → h11.2 j = h.2 j := fun j hj => (f_h11 j (by omega)).trans (o_h10 j hj)
  change q_W _ _ _ _ _ _ _ _ 48 [.ref b] [.ref (b + 6), .ref b] h11
  refine q_dup dX8_init_48 rfl ?_
  refine q_invIN (mc' := 1) (ms' := 12) (d' := d - 1) (as := []) (i := b + 6) rfl rfl (by first | assumption | omega) dX8_init_49 kM_X2_init kN_X8_29 kI_X2_init rfl rfl rfl (Nat.le_of_ble_eq_true rfl) (by omega) (by decide) (by omega) (by omega) (e_X2_init (b := b + 6) (by omega) s_h11 e_h11 (by omega)) (q_kC (fun h12 hB => ?_)) q_xC
  obtain ⟨s_h12, f_h12, k0_h12, k1_h12⟩ := hB
  have s_h12 : h12.1 = b + 8 := s_h12
  have c0_h12 := (f_h12 b (by omega)).trans c0_h11
  have c1_h12 := (f_h12 (b + 1) (by omega)).trans c1_h11
  have c2_h12 := (f_h12 (b + 2) (by omega)).trans c2_h11
  have c3_h12 := (f_h12 (b + 3) (by omega)).trans c3_h11
  have c4_h12 := (f_h12 (b + 4) (by omega)).trans c4_h11
  have c5_h12 := (f_h12 (b + 5) (by omega)).trans c5_h11
  have o_h12 : ∀ j, j < b → h12.2 j = h.2 j := fun j hj => (f_h12 j (by omega)).trans (o_h11 j hj)
  have c6_h12 : h12.2 (b + 6) = some (.inr (4, [.ref (b + 7), .int 0, .int 0, .int 0, .int 0])) := k0_h12
  have c7_h12 : h12.2 (b + 7) = some (.inl (0, 12, .inl (fun _ => 0))) := k1_h12
  change q_W _ _ _ _ _ _ _ _ 52 [.ref b] [.ref (b + 6), .ref b] h12
  refine q_putfF (k := 5) kC_X8 kL_X8_30 rfl (by decide) rfl rfl rfl dX8_init_52 c0_h12 (Nat.le_of_ble_eq_true rfl) ⟨rfl, rfl⟩ rfl ?_
  refine q_setE (P := fun H => q_W _ _ _ _ _ _ _ _ _ _ _ H) (fun h13 s_h13 e_h13 f_h13 => ?_)
  have s_h13 : h13.1 = b + 8 := s_h13.trans s_h12
  have c1_h13 := (f_h13 (b + 1) (by omega)).trans c1_h12
  have c2_h13 := (f_h13 (b + 2) (by omega)).trans c2_h12
  have c3_h13 := (f_h13 (b + 3) (by omega)).trans c3_h12
  have c4_h13 := (f_h13 (b + 4) (by omega)).trans c4_h12
  have c5_h13 := (f_h13 (b + 5) (by omega)).trans c5_h12
  have c6_h13 := (f_h13 (b + 6) (by omega)).trans c6_h12
  have c7_h13 := (f_h13 (b + 7) (by omega)).trans c7_h12
  have o_h13 : ∀ j, j < b → h13.2 j = h.2 j := fun j hj => (f_h13 j (by omega)).trans (o_h12 j hj)
  have c0_h13 : h13.2 (b) = some (.inr (10, [.ref (b + 1), .ref (b + 2), .ref (b + 3), .ref (b + 4), .ref (b + 5), .ref (b + 6), .int 0, .int 0, .int 0])) := e_h13
  change q_W _ _ _ _ _ _ _ _ 55 [.ref b] [] h13
  refine q_aload_n (by first | assumption | omega) dX8_init_55 rfl ?_
  refine q_iconst (v := 0) dX8_init_56 rfl ?_
  refine q_putf (k := 6) kC_X8 kL_X8_34 rfl (by decide) rfl dX8_init_57 c0_h13 (Nat.le_of_ble_eq_true rfl) ⟨rfl, rfl⟩ rfl ?_
  refine q_setE (P := fun H => q_W _ _ _ _ _ _ _ _ _ _ _ H) (fun h14 s_h14 e_h14 f_h14 => ?_)
  have s_h14 : h14.1 = b + 8 := s_h14.trans s_h13
  have c1_h14 := (f_h14 (b + 1) (by omega)).trans c1_h13
  have c2_h14 := (f_h14 (b + 2) (by omega)).trans c2_h13
  have c3_h14 := (f_h14 (b + 3) (by omega)).trans c3_h13
  have c4_h14 := (f_h14 (b + 4) (by omega)).trans c4_h13
  have c5_h14 := (f_h14 (b + 5) (by omega)).trans c5_h13
  have c6_h14 := (f_h14 (b + 6) (by omega)).trans c6_h13
  have c7_h14 := (f_h14 (b + 7) (by omega)).trans c7_h13
  have o_h14 : ∀ j, j < b → h14.2 j = h.2 j := fun j hj => (f_h14 j (by omega)).trans (o_h13 j hj)
  have c0_h14 : h14.2 (b) = some (.inr (10, [.ref (b + 1), .ref (b + 2), .ref (b + 3), .ref (b + 4), .ref (b + 5), .ref (b + 6), .int 0, .int 0, .int 0])) := e_h14
  change q_W _ _ _ _ _ _ _ _ 60 [.ref b] [] h14
  refine q_aload_n (by first | assumption | omega) dX8_init_60 rfl ?_
  refine q_iconst (v := 0) dX8_init_61 rfl ?_
  refine q_putf (k := 7) kC_X8 kL_X8_38 rfl (by decide) rfl dX8_init_62 c0_h14 (Nat.le_of_ble_eq_true rfl) ⟨rfl, rfl⟩ rfl ?_
  refine q_setE (P := fun H => q_W _ _ _ _ _ _ _ _ _ _ _ H) (fun h15 s_h15 e_h15 f_h15 => ?_)
  have s_h15 : h15.1 = b + 8 := s_h15.trans s_h14
  have c1_h15 := (f_h15 (b + 1) (by omega)).trans c1_h14
  have c2_h15 := (f_h15 (b + 2) (by omega)).trans c2_h14
  have c3_h15 := (f_h15 (b + 3) (by omega)).trans c3_h14
  have c4_h15 := (f_h15 (b + 4) (by omega)).trans c4_h14
  have c5_h15 := (f_h15 (b + 5) (by omega)).trans c5_h14
  have c6_h15 := (f_h15 (b + 6) (by omega)).trans c6_h14
  have c7_h15 := (f_h15 (b + 7) (by omega)).trans c7_h14
  have o_h15 : ∀ j, j < b → h15.2 j = h.2 j := fun j hj => (f_h15 j (by omega)).trans (o_h14 j hj)
  have c0_h15 : h15.2 (b) = some (.inr (10, [.ref (b + 1), .ref (b + 2), .ref (b + 3), .ref (b + 4), .ref (b + 5), .ref (b + 6), .int 0, .int 0, .int 0])) := e_h15
  change q_W _ _ _ _ _ _ _ _ 65 [.ref b] [] h15
  refine q_aload_n (by first | assumption | omega) dX8_init_65 rfl ?_
  refine q_iconst (v := 0) dX8_init_66 rfl ?_
  refine q_putf (k := 8) kC_X8 kL_X8_41 rfl (by decide) rfl dX8_init_67 c0_h15 (Nat.le_of_ble_eq_true rfl) ⟨rfl, rfl⟩ rfl ?_
  refine q_setE (P := fun H => q_W _ _ _ _ _ _ _ _ _ _ _ H) (fun h16 s_h16 e_h16 f_h16 => ?_)
  have s_h16 : h16.1 = b + 8 := s_h16.trans s_h15
  have c1_h16 := (f_h16 (b + 1) (by omega)).trans c1_h15
  have c2_h16 := (f_h16 (b + 2) (by omega)).trans c2_h15
  have c3_h16 := (f_h16 (b + 3) (by omega)).trans c3_h15
  have c4_h16 := (f_h16 (b + 4) (by omega)).trans c4_h15
  have c5_h16 := (f_h16 (b + 5) (by omega)).trans c5_h15
  have c6_h16 := (f_h16 (b + 6) (by omega)).trans c6_h15
  have c7_h16 := (f_h16 (b + 7) (by omega)).trans c7_h15
  have o_h16 : ∀ j, j < b → h16.2 j = h.2 j := fun j hj => (f_h16 j (by omega)).trans (o_h15 j hj)
  have c0_h16 : h16.2 (b) = some (.inr (10, [.ref (b + 1), .ref (b + 2), .ref (b + 3), .ref (b + 4), .ref (b + 5), .ref (b + 6), .int 0, .int 0, .int 0])) := e_h16
  change q_W _ _ _ _ _ _ _ _ 70 [.ref b] [] h16
  exact q_return dX8_init_70 rfl (by omega) (by omega) ⟨rfl, s_h16, o_h16, c0_h16, c1_h16, c2_h16, c3_h16, c4_h16, c5_h16, c6_h16, c7_h16⟩
set_option maxRecDepth 100000 in
theorem e_J5_init_d00df {g : q_G} {h : q_H} {d b : Nat} (hb : q_R0 ≤ b) (s0 : h.1 = b + 1) (c0 : h.2 b = some (.inr (1, [.null, .int 0, .int 0, .int 0]))) (hd : 1 ≤ d) : q_Spec g mJ5_init_d00df d 1 16 [.ref b, .int 16] h (q_chg (.inl none) (fun h1 => h1.1 = b + 2 ∧ (∀ j, j < b → h1.2 j = h.2 j) ∧ h1.2 (b) = some (.inr (1, [.ref (b + 1), .int 0, .int 0, .int 0])) ∧ h1.2 (b + 1) = some (.inl (3, 16, .inl (fun _ => 0))))) := by
  refine q_enter (by decide +kernel) rfl rfl (Nat.le_of_ble_eq_true rfl) (fun hz => ?_)
  change q_W _ _ _ _ _ _ _ _ _ [.ref b, .int 16] [] _
  refine q_aload_n (by first | assumption | omega) dJ5_init_d00df_0 rfl ?_
  refine q_objInit (by first | assumption | omega) kL_J5_3 kO_1 kO_2 rfl dJ5_init_d00df_1 (Nat.le_of_ble_eq_true rfl) (by omega) ?_
  refine q_getstatic (v := .int 1) (by simp [q_zs]) kL_J5_18 rfl dJ5_init_d00df_4 ?_
  change q_W _ _ _ _ _ _ _ _ 7 [.ref b, .int 16] [.int 1] h
  refine q_if_eq 25 dJ5_init_d00df_7 (by decide) (fun b9 => absurd b9 (by decide)) (fun b9 => ?_)
  refine q_aload_n (by first | assumption | omega) dJ5_init_d00df_10 rfl ?_
  refine q_iload_n dJ5_init_d00df_11 rfl ?_
  refine q_newaB (N := 16) kA_byte dJ5_init_d00df_12 (by decide) (by decide) (by decide) (by omega) (by omega) (fun hz => ?_)
  refine q_pushE (P := fun H => q_W _ _ _ _ _ _ _ _ _ _ _ H) (fun h1 s_h1 e_h1 f_h1 => ?_)
  rw [s0] at s_h1 e_h1 f_h1 ⊢
  have s_h1 : h1.1 = b + 2 := by omega
  have c0_h1 := (f_h1 b (by omega)).trans c0
  have o_h1 : ∀ j, j < b → h1.2 j = h.2 j := fun j hj => f_h1 j (by omega)
  change q_W _ _ _ _ _ _ _ _ 14 [.ref b, .int 16] [.ref (b + 1), .ref b] h1
  refine q_putf (k := 0) kC_J4 kL_J5_15 rfl (by decide) rfl dJ5_init_d00df_14 c0_h1 (Nat.le_of_ble_eq_true rfl) ⟨rfl, rfl⟩ rfl ?_
  refine q_setE (P := fun H => q_W _ _ _ _ _ _ _ _ _ _ _ H) (fun h2 s_h2 e_h2 f_h2 => ?_)
  have s_h2 : h2.1 = b + 2 := s_h2.trans s_h1
  have c1_h2 := (f_h2 (b + 1) (by omega)).trans e_h1
  have o_h2 : ∀ j, j < b → h2.2 j = h.2 j := fun j hj => (f_h2 j (by omega)).trans (o_h1 j hj)
  have c0_h2 : h2.2 (b) = some (.inr (1, [.ref (b + 1), .int 0, .int 0, .int 0])) := e_h2
  change q_W _ _ _ _ _ _ _ _ 17 [.ref b, .int 16] [] h2
  refine q_aload_n (by first | assumption | omega) dJ5_init_d00df_17 rfl ?_
  refine q_iconst (v := 0) dJ5_init_d00df_18 rfl ?_
  refine q_putf (k := 1) kC_J4 kL_J5_22 rfl (by decide) rfl dJ5_init_d00df_19 c0_h2 (Nat.le_of_ble_eq_true rfl) ⟨rfl, rfl⟩ rfl ?_
  refine q_setE (P := fun H => q_W _ _ _ _ _ _ _ _ _ _ _ H) (fun h3 s_h3 e_h3 f_h3 => ?_)
  have s_h3 : h3.1 = b + 2 := s_h3.trans s_h2
  have c1_h3 := (f_h3 (b + 1) (by omega)).trans c1_h2
  have o_h3 : ∀ j, j < b → h3.2 j = h.2 j := fun j hj => (f_h3 j (by omega)).trans (o_h2 j hj)
  have c0_h3 : h3.2 (b) = some (.inr (1, [.ref (b + 1), .int 0, .int 0, .int 0])) := e_h3
  change q_W _ _ _ _ _ _ _ _ 22 [.ref b, .int 16] [] h3
  refine q_goto 38 dJ5_init_d00df_22 (by decide) ?_
  exact q_return dJ5_init_d00df_38 rfl (by omega) (by omega) ⟨rfl, s_h3, o_h3, c0_h3, c1_h3⟩
set_option maxRecDepth 100000 in
theorem e_J4_init_da8c8 {g : q_G} {h : q_H} {d b : Nat} (hb : q_R0 ≤ b) (s0 : h.1 = b + 1) (c0 : h.2 b = some (.inr (1, [.null, .int 0, .int 0, .int 0]))) (hd : 2 ≤ d) : q_Spec g mJ4_init_da8c8 d 1 16 [.ref b] h (q_chg (.inl none) (fun h1 => h1.1 = b + 2 ∧ (∀ j, j < b → h1.2 j = h.2 j) ∧ h1.2 (b) = some (.inr (1, [.ref (b + 1), .int 0, .int 0, .int 0])) ∧ h1.2 (b + 1) = some (.inl (3, 16, .inl (fun _ => 0))))) := by
  refine q_enter (by decide +kernel) rfl rfl (Nat.le_of_ble_eq_true rfl) (fun hz => ?_)
  change q_W _ _ _ _ _ _ _ _ _ [.ref b] [] _
  refine q_aload_n (by first | assumption | omega) dJ4_init_da8c8_0 rfl ?_
  refine q_bipush (v := 16) dJ4_init_da8c8_1 rfl ?_
  refine q_invI (mc' := 1) (ms' := 16) (d' := d - 1) (as := [.int 16]) (i := b) rfl rfl (by first | assumption | omega) dJ4_init_da8c8_3 kM_J5_init_d00df kL_J4_1 kI_J5_init_d00df rfl rfl rfl (Nat.le_of_ble_eq_true rfl) (by omega) (by decide) (by omega) (by omega) (e_J5_init_d00df (b := b) (by omega) s0 c0 (by omega)) (q_kC (fun h1 hB => ?_)) q_xC
  obtain ⟨s_h1, f_h1, k0_h1, k1_h1⟩ := hB
  have s_h1 : h1.1 = b + 2 := s_h1
  have o_h1 : ∀ j, j < b → h1.2 j = h.2 j := fun j hj => f_h1 j (by omega)
  have c0_h1 : h1.2 (b) = some (.inr (1, [.ref (b + 1), .int 0, .int 0, .int 0])) := k0_h1
  have c1_h1 : h1.2 (b + 1) = some (.inl (3, 16, .inl (fun _ => 0))) := k1_h1
  change q_W _ _ _ _ _ _ _ _ 6 [.ref b] [] h1
  exact q_return dJ4_init_da8c8_6 rfl (by omega) (by omega) ⟨rfl, s_h1, o_h1, c0_h1, c1_h1⟩
