/-- new String(builder, null) -/
theorem e_J0_init_db425 {g : q_G} {h : q_H} {d r b cn v : Nat} {f : Nat → Int32} (hr : q_R0 ≤ r) (s0 : h.1 = r + 1) (c0 : h.2 r = some (.inr (0, [.null, .int 0, .int 0, .int 0]))) (s : z_Sb h b cn f v) (hb : b ≠ r ∧ v ≠ r) (hcn : cn ≤ 142) (hd : 4 ≤ d) : q_Spec g mJ0_init_db425 d 1 142 [.ref r, .ref b, .null] h
    (q_chg (.inl none) (fun h1 => z_Str h1 r (r + 1) cn f ∧ h1.1 = r + 2 ∧ ∀ j, j < r → h1.2 j = h.2 j)) := by
  have s9 := s
  obtain ⟨ml, cap, bs, s1, s2, hbv, h16, hcc, hnar, hf⟩ := s
  have hrb := s1.r0
  have hrv := s2.r0
  have hsb := s1.s0
  have hsv := s2.s0
  refine q_enter (by decide +kernel) rfl rfl (Nat.le_of_ble_eq_true rfl) (fun hz => ?_)
  change q_W _ _ _ _ _ _ _ _ _ [.ref r, .ref b, .null, q_u, q_u] [] _
  refine q_aload_n hr dJ0_init_db425_0 rfl ?_
  refine q_objInit hr kL_J0_1 kO_1 kO_2 rfl dJ0_init_db425_1 (Nat.le_of_ble_eq_true rfl) (by omega) ?_
  refine q_aload_n hrb dJ0_init_db425_4 rfl ?_
  refine q_invV (mc' := 0) (ms' := 0) (d' := d - 1) (as := []) (Q' := q_ret (some (.ref v)) h) dJ0_init_db425_5 kM_J5_getValue_6d5f1 kL_J0_552 kI_J5_getValue_6d5f1 kS_J5_getValue_6d5f1 rfl (kC_J4.1) s1.c0 rfl rfl (Nat.le_of_ble_eq_true rfl) (by omega) (by decide) (by omega) (by omega) ?_ (q_kR ?_) q_xR
  · refine q_enter (by decide +kernel) rfl rfl (Nat.le_of_ble_eq_true rfl) (fun hz2 => ?_)
    change q_W _ _ _ _ _ _ _ _ _ [.ref b] [] _
    refine q_aload_n hrb dJ5_getValue_6d5f1_0 rfl ?_
    refine q_getf (k := 0) (v := .ref v) kC_J4 kL_J5_15 rfl (by decide) dJ5_getValue_6d5f1_1 s1.c0 rfl ?_
    exact q_areturn hrv dJ5_getValue_6d5f1_4 rfl (Or.inr ⟨_, rfl⟩) (by omega) (by omega) ⟨rfl, rfl⟩
  change q_W _ _ _ _ _ _ _ _ 8 [.ref r, .ref b, .null, q_u, q_u] [.ref v] _
  refine q_astore_n hrv dJ0_init_db425_8 (by decide) rfl ?_
  change q_W _ _ _ _ _ _ _ _ _ [.ref r, .ref b, .null, .ref v, q_u] [] _
  refine q_aload_n hrb dJ0_init_db425_9 rfl ?_
  refine q_invO (M0 := mJ5_length_8abf5) (mc' := 0) (ms' := 0) (d' := d - 1) (as := []) dJ0_init_db425_10 kM_J4_length_8abf5 kM_J5_length_8abf5 kL_J0_549 kW_835 kI_J5_length_8abf5 kI_J4_length_8abf5 kU_1 rfl (kC_J4.1) s1.c0 rfl rfl (Nat.le_of_ble_eq_true rfl) (by omega) (by decide) (by omega) (by omega) (e_sbLen (d := d - 1) s9 (by omega)) (q_kR ?_) q_xR
  change q_W _ _ _ _ _ _ _ _ 13 [.ref r, .ref b, .null, .ref v, q_u] [.int (nI cn)] _
  refine q_istore dJ0_init_db425_13 (by decide) rfl ?_
  change q_W _ _ _ _ _ _ _ _ _ [.ref r, .ref b, .null, .ref v, .int (nI cn)] [] _
  refine q_aload_n hrb dJ0_init_db425_15 rfl ?_
  refine q_invV (mc' := 0) (ms' := 0) (d' := d - 1) (as := []) dJ0_init_db425_16 kM_J5_isLatin1_aae02 kL_J0_1047 kI_J5_isLatin1_aae02 kS_J5_isLatin1_aae02 rfl (kC_J4.1) s1.c0 rfl rfl (Nat.le_of_ble_eq_true rfl) (by omega) (by decide) (by omega) (by omega) (e_J5_isLatin1 (d := d - 1) s1 (by omega)) (q_kR ?_) q_xR
  refine q_if_eq 41 dJ0_init_db425_19 (by decide) (fun b9 => absurd b9 (by decide)) (fun b9 => ?_)
  change q_W _ _ _ _ _ _ _ _ 22 [.ref r, .ref b, .null, .ref v, .int (nI cn)] [] _
  refine q_aload_n hr dJ0_init_db425_22 rfl ?_
  refine q_iconst (v := 0) dJ0_init_db425_23 rfl ?_
  refine q_putfF (k := 1) kC_J0 kL_J0_15 rfl (by decide) rfl rfl rfl dJ0_init_db425_24 c0 (Nat.le_of_ble_eq_true rfl) ⟨rfl, rfl⟩ rfl ?_
  refine q_setE (P := fun H => q_W _ _ _ _ _ _ _ _ _ _ _ H) (fun h1 s_h1 c_h1 o_h1 => ?_)
  have by1 : z_By h1 v cap bs := ⟨hrv, by rw [s_h1]; exact s2.s0, s2.bcap, (o_h1 _ hb.2).trans s2.c0⟩
  refine q_aload_n hr dJ0_init_db425_27 rfl ?_
  refine q_aload_n hrv dJ0_init_db425_28 rfl ?_
  refine q_iconst (v := 0) dJ0_init_db425_29 rfl ?_
  refine q_iload dJ0_init_db425_30 rfl ?_
  refine q_invS (mc' := 1) (ms' := 142) (d' := d - 1) (as := [.ref v, .int 0, .int (nI cn)]) dJ0_init_db425_32 kM_J7_copyOfRange_39247 kL_J0_54 kT_J7_copyOfRange_39247 rfl rfl rfl (Nat.le_of_ble_eq_true rfl) (by omega) (by decide) (by omega) (by omega) (e_copyRange (d := d - 1) by1 hnar hcc hcn (by omega)) (q_kC (fun h2 hB => ?_)) q_xC
  obtain ⟨⟨bs2, by2, hbs2⟩, s_h2, o_h2⟩ := hB
  have e1 : h1.1 = r + 1 := s_h1.trans s0
  rw [e1] at by2 s_h2 o_h2
  change q_W _ _ _ _ _ _ _ _ 35 [.ref r, .ref b, .null, .ref v, .int (nI cn)] [.ref h1.1, .ref r] _
  rw [e1]
  have c2 : h2.2 r = some (.inr (0, [.null, .int 0, .int 0, .int 0])) := (o_h2 r (by omega)).trans c_h1
  refine q_putfF (k := 0) kC_J0 kL_J0_9 rfl (by decide) rfl rfl rfl dJ0_init_db425_35 c2 (Nat.le_of_ble_eq_true rfl) ⟨rfl, rfl⟩ rfl ?_
  refine q_setE (P := fun H => q_W _ _ _ _ _ _ _ _ _ _ _ H) (fun h3 s_h3 c_h3 o_h3 => ?_)
  refine q_goto 97 dJ0_init_db425_38 (by decide) ?_
  refine q_return dJ0_init_db425_97 rfl (by omega) (by omega) ⟨rfl, ⟨hcn, fun j hj => (hf j hj).1, Or.inr ⟨hr, by omega, by omega, c_h3, bs2, ⟨by2.1, by rw [s_h3]; exact by2.2.1, by2.2.2.1, (o_h3 _ (by omega)).trans by2.2.2.2⟩, fun j hj => (hbs2 j hj).trans (hf j hj).2⟩⟩, by omega, fun j hj => ?_⟩
  rw [o_h3 j (by omega), o_h2 j (by omega), o_h1 j (by omega)]
/-- toString: a String made of the builder's letters -/
theorem e_toString {g : q_G} {h : q_H} {d b cn v : Nat} {f : Nat → Int32} (s : z_Sb h b cn f v) (hcn : cn ≤ 142) (hd : 6 ≤ d) : q_Spec g mJ4_toString_0e30d d 2 146 [.ref b] h
    (q_chg (.inl (some (.ref h.1))) (fun h1 => z_Str h1 h.1 (h.1 + 1) cn f ∧ h1.1 = h.1 + 2 ∧ ∀ j, j < h.1 → h1.2 j = h.2 j)) := by
  have hrb := s.r0
  have hvl : v < h.1 := by
    obtain ⟨ml, cap, bs, s1, s2, -⟩ := s
    exact s2.s0
  have hbl : b < h.1 := by
    obtain ⟨ml, cap, bs, s1, s2, -⟩ := s
    exact s1.s0
  refine q_enter (by decide +kernel) rfl rfl (Nat.le_of_ble_eq_true rfl) (fun hz => ?_)
  change q_W _ _ _ _ _ _ _ _ _ [.ref b] [] _
  refine q_new (fs := [.null, .int 0, .int 0, .int 0]) kC_J0 kL_J4_18 kV_J0 kJ_J0 rfl dJ4_toString_0e30d_0 (by intro j hj; have hj9 : j = 0 ∨ j = 1 ∨ j = 2 ∨ j = 3 := (by omega); rcases hj9 with rfl | rfl | rfl | rfl <;> rfl) (by omega) (by omega) (fun hz1 => ?_)
  refine q_pushE (P := fun H => q_W _ _ _ _ _ _ _ _ _ _ _ H) (fun h1 s_h1 c_h1 o_h1 => ?_)
  have s' : z_Sb h1 b cn f v := by
    obtain ⟨ml, cap, bs, s1, s2, r⟩ := s
    exact ⟨ml, cap, bs, ⟨s1.1, by omega, s1.2.2.1, (o_h1 b (by omega)).trans s1.2.2.2⟩, ⟨s2.1, by omega, s2.2.2.1, (o_h1 v (by omega)).trans s2.2.2.2⟩, r⟩
  refine q_dup dJ4_toString_0e30d_3 rfl ?_
  refine q_aload_n hrb dJ4_toString_0e30d_4 rfl ?_
  refine q_invI (mc' := 1) (ms' := 142) (d' := d - 1) (as := [.ref b]) (i := h.1) (Q' := q_chg (.inl none) (fun h2 => z_Str h2 h.1 (h.1 + 1) cn f ∧ h2.1 = h.1 + 2 ∧ ∀ j, j < h.1 → h2.2 j = h1.2 j)) rfl rfl hz1 dJ4_toString_0e30d_5 kM_J0_init_81219 kL_J4_137 kI_J0_init_81219 rfl rfl rfl (Nat.le_of_ble_eq_true rfl) (by omega) (by decide) (by omega) (by omega) ?_ (q_kC (fun h2 hB => ?_)) q_xC
  · refine q_enter (by decide +kernel) rfl rfl (Nat.le_of_ble_eq_true rfl) (fun hz2 => ?_)
    change q_W _ _ _ _ _ _ _ _ _ [.ref h.1, .ref b] [] _
    refine q_aload_n hz1 dJ0_init_81219_0 rfl ?_
    refine q_aload_n hrb dJ0_init_81219_1 rfl ?_
    refine q_null dJ0_init_81219_2 ?_
    refine q_invI (mc' := 1) (ms' := 142) (d' := d - 1 - 1) (as := [.ref b, .null]) (i := h.1) rfl rfl hz1 dJ0_init_81219_3 kM_J0_init_db425 kL_J0_489 kI_J0_init_db425 rfl rfl rfl (Nat.le_of_ble_eq_true rfl) (by omega) (by decide) (by omega) (by omega) (e_J0_init_db425 (d := d - 1 - 1) hz1 s_h1 c_h1 s' (by omega) hcn (by omega)) (q_kC (fun h2 hB => ?_)) q_xC
    exact q_return dJ0_init_81219_6 rfl (by omega) (by omega) ⟨rfl, hB⟩
  obtain ⟨q1, q2, q3⟩ := hB
  change q_W _ _ _ _ _ _ _ _ 8 [.ref b] [.ref h.1] _
  exact q_areturn hz1 dJ4_toString_0e30d_8 rfl (Or.inl ⟨_, rfl⟩) (by omega) (by omega) ⟨rfl, q1, q2, fun j hj => (q3 j hj).trans (o_h1 j (by omega))⟩
/-- new StringBuilder() -/
theorem z_newSb {h1 : q_H} {b : Nat} (hb : q_R0 ≤ b) (s0 : h1.1 = b + 2) (c0 : h1.2 b = some (.inr (1, [.ref (b + 1), .int 0, .int 0, .int 0]))) (c1 : h1.2 (b + 1) = some (.inl (3, 16, .inl (fun _ => 0)))) : z_Sb h1 b 0 (fun _ => 0) (b + 1) :=
  ⟨0, 16, fun _ => 0, ⟨hb, by omega, by decide, c0⟩, ⟨by omega, by omega, by decide, c1⟩, by omega, by omega, by omega, fun _ _ => (by show vp_nar .byte 0 = 0; decide), fun j hj => absurd hj (Nat.not_lt_zero j)⟩
