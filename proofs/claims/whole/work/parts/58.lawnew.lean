/-- the heap when the loop begins -/
def z_W0 (h2 : q_H) : Prop :=
  h2.1 = 225 ∧
  z_Am h2 100 false (-1) (-1) ∧
  z_S2t h2 101 z_zs ∧
  z_S2t h2 109 z_zs ∧
  z_S2t h2 117 z_zs ∧
  z_Hs h2 125 0 0 (fun _ => z_zs) ∧
  z_Lb h2 199 0 0 (fun _ => 0) ∧
  z_Ga h2 201 (fun _ => 0) (fun _ => 0) ∧
  z_Ex h2 204 (fun _ => 0) (fun _ => 0) 1 ∧
  z_Pr h2 207 0 0 0 (fun _ => 0) (fun _ => 0) (fun _ => 0) ∧
  z_Sbs h2 211 0 (fun _ => 0) 0 (fun _ => 0) ∧
  z_Mr h2 215 0 (fun _ => 0) 0 false 0 0 0 (fun _ => 0) (fun _ => 0) (fun _ => 0) (fun _ => 0) 0 (fun _ => 0) 0 0 0 (-1) (-1) (fun _ => 0) 0 ∧
  h2.2 223 = some (.inl (4, 1, .inr (.inl (fun _ => 0)))) ∧
  h2.2 224 = some (.inl (5, 1, .inr (.inr (.inr (.inl (fun _ => 0))))))
abbrev mL_law : q_M := (yL_law, cL_law, 9, (some .boolean), [])
set_option maxRecDepth 100000 in
set_option maxHeartbeats 8000000 in
theorem l_law_new {g : q_G} {h : q_H} {d mc ms : Nat} {Q : q_O → q_H → Prop} (s0 : h.1 = 100) (hd : 5 ≤ d) (hmc : 125 ≤ mc) (hms : 3260 ≤ ms) (K : ∀ h2, z_W0 h2 → q_W g mL_law d mc ms Q 125 3260 28 [.ref 0, .ref 100, .ref 215, .ref 223, .ref 224, .int 0, q_u, q_u, q_u] [] h2) : q_W g mL_law d mc ms Q 0 0 0 [.ref 0, q_u, q_u, q_u, q_u, q_u, q_u, q_u, q_u] [] h := by
  refine q_new (fs := [.null, .null, .null, .null, .null, .null, .null, .null, .null, .null, .int 0, .int 0, .int 0]) kC_X10 kL_L_8 kV_X10 kJ_X10 rfl dL_law_0 (by intro j hj; have hj9 : j = 0 ∨ j = 1 ∨ j = 2 ∨ j = 3 ∨ j = 4 ∨ j = 5 ∨ j = 6 ∨ j = 7 ∨ j = 8 ∨ j = 9 ∨ j = 10 ∨ j = 11 ∨ j = 12 := (by omega); rcases hj9 with rfl | rfl | rfl | rfl | rfl | rfl | rfl | rfl | rfl | rfl | rfl | rfl | rfl <;> rfl) (by omega) (by omega) (fun hz => ?_)
  refine q_pushE (P := fun H => q_W _ _ _ _ _ _ _ _ _ _ _ H) (fun h1 sh1 eh1 fh1 => ?_)
  rw [s0] at sh1 eh1 fh1 ⊢
  have sh1 : h1.1 = 101 := sh1
  change q_W _ _ _ _ _ _ _ _ 3 [.ref 0, q_u, q_u, q_u, q_u, q_u, q_u, q_u, q_u] [.ref 100] h1
  refine q_dup dL_law_3 rfl ?_
  refine q_invI (mc' := 114) (ms' := 1938) (d' := d - 1) (as := []) (i := 100) rfl rfl (by first | assumption | (rw [q_R0e]; omega)) dL_law_4 kM_X10_init kL_L_156 kI_X10_init rfl rfl rfl (Nat.le_of_ble_eq_true rfl) (by omega) (by decide) (by omega) (by omega) (e_X10_init sh1 eh1 (by omega)) (q_kC (fun h2 hB => ?_)) q_xC
  obtain ⟨sh2, o2, v101, v109, v117, v125, v199, v201, v204, v207, c100, c211, c212, c213, c214⟩ := hB
  change q_W _ _ _ _ _ _ _ _ 7 [.ref 0, q_u, q_u, q_u, q_u, q_u, q_u, q_u, q_u] [.ref 100] h2
  refine q_astore_n (by first | assumption | (rw [q_R0e]; omega)) dL_law_7 (by decide) rfl ?_
  change q_W _ _ _ _ _ _ _ _ 8 [.ref 0, .ref 100, q_u, q_u, q_u, q_u, q_u, q_u, q_u] [] h2
  refine q_new (fs := [.int 0, .null, .int 0, .int 0, .int 0, .int 0, .int 0, .null, .null, .null, .null, .int 0, .null, .int 0, .int 0, .int 0, .int 0, .int 0, .null, .int 0]) kC_X11 kL_L_157 kV_X11 kJ_X11 rfl dL_law_8 (by intro j hj; have hj9 : j = 0 ∨ j = 1 ∨ j = 2 ∨ j = 3 ∨ j = 4 ∨ j = 5 ∨ j = 6 ∨ j = 7 ∨ j = 8 ∨ j = 9 ∨ j = 10 ∨ j = 11 ∨ j = 12 ∨ j = 13 ∨ j = 14 ∨ j = 15 ∨ j = 16 ∨ j = 17 ∨ j = 18 ∨ j = 19 := (by omega); rcases hj9 with rfl | rfl | rfl | rfl | rfl | rfl | rfl | rfl | rfl | rfl | rfl | rfl | rfl | rfl | rfl | rfl | rfl | rfl | rfl | rfl <;> rfl) (by omega) (by omega) (fun hz => ?_)
  refine q_pushE (P := fun H => q_W _ _ _ _ _ _ _ _ _ _ _ H) (fun h3 sh3 eh3 fh3 => ?_)
  rw [sh2] at sh3 eh3 fh3 ⊢
  have sh3 : h3.1 = 216 := sh3
  change q_W _ _ _ _ _ _ _ _ 11 [.ref 0, .ref 100, q_u, q_u, q_u, q_u, q_u, q_u, q_u] [.ref 215] h3
  refine q_dup dL_law_11 rfl ?_
  refine q_invI (mc' := 7) (ms' := 1287) (d' := d - 1) (as := []) (i := 215) rfl rfl (by first | assumption | (rw [q_R0e]; omega)) dL_law_12 kM_X11_init kL_L_159 kI_X11_init rfl rfl rfl (Nat.le_of_ble_eq_true rfl) (by omega) (by decide) (by omega) (by omega) (e_X11_init (b := 215) (by first | assumption | (rw [q_R0e]; omega)) sh3 eh3 (by omega)) (q_kC (fun h4 hB => ?_)) q_xC
  obtain ⟨sh4, o4, k0, k1, k2, k3, k4, k5, k6, k7⟩ := hB
  have sh4 : h4.1 = 223 := sh4
  change q_W _ _ _ _ _ _ _ _ 15 [.ref 0, .ref 100, q_u, q_u, q_u, q_u, q_u, q_u, q_u] [.ref 215] h4
  refine q_astore_n (by first | assumption | (rw [q_R0e]; omega)) dL_law_15 (by decide) rfl ?_
  change q_W _ _ _ _ _ _ _ _ 16 [.ref 0, .ref 100, .ref 215, q_u, q_u, q_u, q_u, q_u, q_u] [] h4
  refine q_iconst (v := 1) dL_law_16 rfl ?_
  refine q_newaL (N := 1) kA_long dL_law_17 (by decide) (by decide) (by decide) (by omega) (by omega) (fun hz => ?_)
  refine q_pushE (P := fun H => q_W _ _ _ _ _ _ _ _ _ _ _ H) (fun h5 sh5 eh5 fh5 => ?_)
  rw [sh4] at sh5 eh5 fh5 ⊢
  have sh5 : h5.1 = 224 := sh5
  change q_W _ _ _ _ _ _ _ _ 19 [.ref 0, .ref 100, .ref 215, q_u, q_u, q_u, q_u, q_u, q_u] [.ref 223] h5
  refine q_astore_n (by first | assumption | (rw [q_R0e]; omega)) dL_law_19 (by decide) rfl ?_
  change q_W _ _ _ _ _ _ _ _ 20 [.ref 0, .ref 100, .ref 215, .ref 223, q_u, q_u, q_u, q_u, q_u] [] h5
  refine q_iconst (v := 1) dL_law_20 rfl ?_
  refine q_newaD (N := 1) kA_double dL_law_21 (by decide) (by decide) (by decide) (by omega) (by omega) (fun hz => ?_)
  refine q_pushE (P := fun H => q_W _ _ _ _ _ _ _ _ _ _ _ H) (fun h6 sh6 eh6 fh6 => ?_)
  rw [sh5] at sh6 eh6 fh6 ⊢
  have sh6 : h6.1 = 225 := sh6
  change q_W _ _ _ _ _ _ _ _ 23 [.ref 0, .ref 100, .ref 215, .ref 223, q_u, q_u, q_u, q_u, q_u] [.ref 224] h6
  refine q_astore (by first | assumption | (rw [q_R0e]; omega)) dL_law_23 (by decide) rfl ?_
  change q_W _ _ _ _ _ _ _ _ 25 [.ref 0, .ref 100, .ref 215, .ref 223, .ref 224, q_u, q_u, q_u, q_u] [] h6
  refine q_iconst (v := 0) dL_law_25 rfl ?_
  refine q_istore dL_law_26 (by decide) rfl ?_
  change q_W _ _ _ _ _ _ _ _ 28 [.ref 0, .ref 100, .ref 215, .ref 223, .ref 224, .int 0, q_u, q_u, q_u] [] h6
  have F : ∀ j, j < 215 → h6.2 j = h2.2 j := fun j hj => (fh6 j (by omega)).trans ((fh5 j (by omega)).trans ((o4 j hj).trans (fh3 j (by omega))))
  have G : ∀ j, 215 ≤ j → j < 223 → h6.2 j = h4.2 j := fun j hj hj2 => (fh6 j (by omega)).trans (fh5 j (by omega))
  exact q_widen (by omega) (by omega) (K h6 ⟨sh6, ⟨(by first | assumption | (rw [q_R0e]; omega)), by omega, (F 100 (by omega)).trans c100⟩, v101.keepI (by omega) (fun i q1 q2 => F i (by omega)), v109.keepI (by omega) (fun i q1 q2 => F i (by omega)), v117.keepI (by omega) (fun i q1 q2 => F i (by omega)), v125.keepI (by omega) (fun i q1 q2 => F i (by omega)), v199.keepI (by omega) (fun i q1 q2 => F i (by omega)), v201.keepI (by omega) (fun i q1 q2 => F i (by omega)), v204.keepI (by omega) (fun i q1 q2 => F i (by omega)), v207.keepI (by omega) (fun i q1 q2 => F i (by omega)), ⟨212, 214, ⟨0, 16, fun _ => 0, ⟨(by first | assumption | (rw [q_R0e]; omega)), by omega, by decide, (F 211 (by omega)).trans c211⟩, ⟨(by first | assumption | (rw [q_R0e]; omega)), by omega, by decide, (F 212 (by omega)).trans c212⟩, by decide, by decide, by decide, fun j hj => (by decide : vp_nar .byte 0 = 0), fun j hj => absurd hj (Nat.not_lt_zero j)⟩, ⟨0, 16, fun _ => 0, ⟨(by first | assumption | (rw [q_R0e]; omega)), by omega, by decide, (F 213 (by omega)).trans c213⟩, ⟨(by first | assumption | (rw [q_R0e]; omega)), by omega, by decide, (F 214 (by omega)).trans c214⟩, by decide, by decide, by decide, fun j hj => (by decide : vp_nar .byte 0 = 0), fun j hj => absurd hj (Nat.not_lt_zero j)⟩, Or.inl rfl, Or.inl rfl, by decide, by omega, by decide, by decide⟩, ⟨(by first | assumption | (rw [q_R0e]; omega)), by omega, by decide, by decide, by decide, by decide, by decide, (G 215 (by omega) (by omega)).trans k0, (G 216 (by omega) (by omega)).trans k1, (G 217 (by omega) (by omega)).trans k2, (G 218 (by omega) (by omega)).trans k3, (G 219 (by omega) (by omega)).trans k4, (G 220 (by omega) (by omega)).trans k5, (G 221 (by omega) (by omega)).trans k6, (G 222 (by omega) (by omega)).trans k7⟩, (fh6 223 (by omega)).trans eh5, eh6⟩)