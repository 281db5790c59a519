set_option maxRecDepth 100000 in
set_option maxHeartbeats 4000000 in
theorem l_c_addArgument {g : q_G} {h : q_H} {d mc ms kc ks i t : Nat} {Q : q_O → q_H → Prop} (hP : z_P_addArgument) (hI : z_I t h) (ht : t < 512) (hi : i + 2 < g.2.2.2.2.2.1) (hN : g.2.2.2.2.2.1 < 2 ^ 31) (ho : q_isold g 0) (hd : 26 ≤ d) (hkc : kc + 66 ≤ mc) (hks : ks + 10588 ≤ ms) (K : ∀ h2, z_I (t + 1) h2 → q_W g mL_law d mc ms Q (kc + 66) (ks + 10588) 2985 [.ref 0, .ref 100, .ref 215, .ref 223, .ref 224, .int (nI i), q_u, q_u, q_u] [] h2) : q_W g mL_law d mc ms Q kc ks 308 [.ref 0, .ref 100, .ref 215, .ref 223, .ref 224, .int (nI i), q_u, q_u, q_u] [] h := by
  obtain ⟨hs, se, sf, s, s1, nx, kp, rw, ic, fi, lc, fl, al, cg, sv, ad, ln, lz, ip, ty, ea, fa, wc, ⟨th, wm⟩, ⟨f, c223⟩, ⟨fd, c224⟩, J⟩ := hI
  obtain ⟨s2, ca, cj, co, won, lost, pf, cv, sc, pc, pp, po, vb, oa, ob, w⟩ := wc
  obtain ⟨rs, ac, rj, ro, bf, he, er, cm, cn, m⟩ := wm
  obtain ⟨e0, hn, e3, hm⟩ := J.n0
  obtain ⟨ag, J2⟩ := hP t hs se sf s s1 nx kp rw ic fi lc fl al cg sv ad ln lz ip ty ea fa rs (g.2.2.2.2.2.2 (i + 1)) ht J
  refine q_aload_n (by first | assumption | (rw [q_R0e]; omega)) dL_law_308 rfl ?_
  refine q_aload_nO ho dL_law_309 rfl ?_
  refine q_iload dL_law_310 rfl ?_
  refine q_iconst (v := 1) dL_law_312 rfl ?_
  refine q_iaddN (a := i) (b := 1) dL_law_313 ?_
  refine q_taldIN (by decide) dL_law_314 (rfl : q_ar g 0 = _) (by omega) hN ?_
  change q_W _ _ _ _ _ _ _ _ _ _ [.int (g.2.2.2.2.2.2 (i + 1)), .ref 100] _
  refine q_aload_n (by first | assumption | (rw [q_R0e]; omega)) dL_law_315 rfl ?_
  have ho9 : (∃ v, (q_oI ((x_am_addArgument s nx kp rw (g.2.2.2.2.2.2 (i + 1))).1)) = .inl (some (.int v))) ∨ (q_oI ((x_am_addArgument s nx kp rw (g.2.2.2.2.2.2 (i + 1))).1)) = .inr "java/lang/IllegalArgumentException" ∨ (q_oI ((x_am_addArgument s nx kp rw (g.2.2.2.2.2.2 (i + 1))).1)) = .inr "java/lang/IllegalStateException" := by
    rcases ag with ⟨et, eo⟩ | ⟨et, eo⟩ | ⟨et, eo⟩
    · exact Or.inr (Or.inl eo)
    · exact Or.inr (Or.inr (eo))
    · exact Or.inl ⟨_, eo⟩
  have hcd : z_cd [("java/lang/IllegalArgumentException", 1), ("java/lang/IllegalStateException", 2)] (q_oI ((x_am_addArgument s nx kp rw (g.2.2.2.2.2.2 (i + 1))).1)) = (x_mo_addArgument al cg rs s.1 (g.2.2.2.2.2.2 (i + 1))).2.1 := by
    rcases ag with ⟨et, eo⟩ | ⟨et, eo⟩ | ⟨et, eo⟩
    · rw [et, eo]; rfl
    · rw [et, eo]; rfl
    · rw [et, eo]; rfl
  have hB9 : ∀ h1, (z_C h1 hs se sf ((x_am_addArgument s nx kp rw (g.2.2.2.2.2.2 (i + 1))).2.1) s1 ((x_am_addArgument s nx kp rw (g.2.2.2.2.2.2 (i + 1))).2.2.1) ((x_am_addArgument s nx kp rw (g.2.2.2.2.2.2 (i + 1))).2.2.2.1) ((x_am_addArgument s nx kp rw (g.2.2.2.2.2.2 (i + 1))).2.2.2.2) ic fi lc fl ∧ q_zone h h1 100 115) → h1.2 223 = some (.inl (4, 1, .inr (.inl f))) := fun h1 hb => (hb.2.2 _ (by omega) (by omega)).trans c223
  refine q_invSH (mc' := 4) (ms' := 24) (d' := d - 1) (as := [.ref 100, .int ((g.2.2.2.2.2.2 (i + 1))), .ref 223]) dL_law_316 kM_L_addArgument kL_L_160 kT_L_addArgument rfl rfl rfl (Nat.le_of_ble_eq_true rfl) (by omega) (by decide) (by omega) (by omega) (e_L_addArgument (d := d - 1) (dd := d - 2) w.1.c0 hB9 ho9 (c_addArgument (g := g) (h := h) (d := d - 2) w (g.2.2.2.2.2.2 (i + 1)) (by omega)) (by omega)) (q_kC (fun h1 hB => ?_)) q_xC
  obtain ⟨h0, ⟨wc1, q1⟩, e9⟩ := hB
  obtain ⟨f2, c223b, hf2⟩ := z_outL_c (o := q_oI ((x_am_addArgument s nx kp rw (g.2.2.2.2.2.2 (i + 1))).1)) (hB9 h0 ⟨wc1, q1⟩)
  have qs : q_same h0 h1 223 1 := e9 ▸ z_outL_same
  rw [← e9] at c223b
  clear e9
  have hz : 225 ≤ h.1 := w.2.2.2.2.2.2.2.2.2.s0
  have hz0 : h.1 ≤ h0.1 := q1.1
  have c224b : h1.2 224 = _ := (qs.2 _ (by omega) (by omega)).trans ((q1.2 _ (by omega) (by omega)).trans c224)
  have w1 := wc1.keep (qs.wide (by omega) (by omega))
  have m1 := m.keepI (h1 := h1) (Nat.le_trans q1.1 qs.1) (fun j b1 b2 => (qs.2 j (by omega) (by omega)).trans (q1.2 j (by omega) (by omega)))
  clear wc1 hB9 ho9 m
  change q_W _ _ _ _ _ _ _ _ 319 [.ref 0, .ref 100, .ref 215, .ref 223, .ref 224, .int (nI i), q_u, q_u, q_u] [.int (z_cd [("java/lang/IllegalArgumentException", 1), ("java/lang/IllegalStateException", 2)] (q_oI ((x_am_addArgument s nx kp rw (g.2.2.2.2.2.2 (i + 1))).1)))] h1
  rw [hcd]
  refine q_istore dL_law_319 (by decide) rfl ?_
  change q_W _ _ _ _ _ _ _ _ 321 [.ref 0, .ref 100, .ref 215, .ref 223, .ref 224, .int (nI i), .int ((x_mo_addArgument al cg rs s.1 (g.2.2.2.2.2.2 (i + 1))).2.1), q_u, q_u] [] h1
  refine q_aload_n (by first | assumption | (rw [q_R0e]; omega)) dL_law_321 rfl ?_
  refine q_aload_nO ho dL_law_322 rfl ?_
  refine q_iload dL_law_323 rfl ?_
  refine q_iconst (v := 1) dL_law_325 rfl ?_
  refine q_iaddN (a := i) (b := 1) dL_law_326 ?_
  refine q_taldIN (by decide) dL_law_327 (rfl : q_ar g 0 = _) (by omega) hN ?_
  change q_W _ _ _ _ _ _ _ _ _ _ [.int (g.2.2.2.2.2.2 (i + 1)), .ref 215] _
  refine q_invV (mc' := 0) (ms' := 0) (d' := d - 1) (as := [.int ((g.2.2.2.2.2.2 (i + 1)))]) dL_law_328 kM_X11_addArgument kL_L_165 kI_X11_addArgument kS_X11_addArgument rfl (kC_X11.1) m1.c0 rfl rfl (Nat.le_of_ble_eq_true rfl) (by omega) (by decide) (by omega) (by omega) (r_addArgument (g := g) (d := d - 1) m1 e0 hn e3 hm (g.2.2.2.2.2.2 (i + 1)) (by omega)) (q_kC (fun h3 hB3 => ?_)) q_xC
  obtain ⟨m3, q3⟩ := hB3
  obtain ⟨rs3, ac3, rj3, ro3, bf3, he3, er3, cm3, cn3, m3⟩ := m3
  change q_W _ _ _ _ _ _ _ _ 331 [.ref 0, .ref 100, .ref 215, .ref 223, .ref 224, .int (nI i), .int ((x_mo_addArgument al cg rs s.1 (g.2.2.2.2.2.2 (i + 1))).2.1), q_u, q_u] [.int ((x_mo_addArgument al cg rs s.1 (g.2.2.2.2.2.2 (i + 1))).1)] h3
  refine q_istore dL_law_331 (by decide) rfl ?_
  change q_W _ _ _ _ _ _ _ _ 333 [.ref 0, .ref 100, .ref 215, .ref 223, .ref 224, .int (nI i), .int ((x_mo_addArgument al cg rs s.1 (g.2.2.2.2.2.2 (i + 1))).2.1), .int ((x_mo_addArgument al cg rs s.1 (g.2.2.2.2.2.2 (i + 1))).1), q_u] [] h3
  refine q_aload_n (by first | assumption | (rw [q_R0e]; omega)) dL_law_333 rfl ?_
  refine q_invV (mc' := 0) (ms' := 0) (d' := d - 1) (as := []) dL_law_334 kM_X11_thrown kL_L_166 kI_X11_thrown kS_X11_thrown rfl (kC_X11.1) m3.c0 rfl rfl (Nat.le_of_ble_eq_true rfl) (by omega) (by decide) (by omega) (by omega) (e_mo_thrownR (d := d - 1) m3 (by omega)) (q_kR ?_) q_xR
  change q_W _ _ _ _ _ _ _ _ 337 [.ref 0, .ref 100, .ref 215, .ref 223, .ref 224, .int (nI i), .int ((x_mo_addArgument al cg rs s.1 (g.2.2.2.2.2.2 (i + 1))).2.1), .int ((x_mo_addArgument al cg rs s.1 (g.2.2.2.2.2.2 (i + 1))).1), q_u] [.int ((x_mo_addArgument al cg rs s.1 (g.2.2.2.2.2.2 (i + 1))).2.1)] h3
  refine q_iload dL_law_337 rfl ?_
  refine q_icmp_eq 344 dL_law_339 (by decide) (fun _ => ?_) (fun b => absurd rfl b)
  refine q_iload dL_law_344 rfl ?_
  have hz3 : h1.1 ≤ h3.1 := q3.1
  have hz4 : h0.1 ≤ h1.1 := qs.1
  have fin : q_W g mL_law d mc ms Q (kc + 4) (ks + 24) 361 [.ref 0, .ref 100, .ref 215, .ref 223, .ref 224, .int (nI i), .int ((x_mo_addArgument al cg rs s.1 (g.2.2.2.2.2.2 (i + 1))).2.1), .int ((x_mo_addArgument al cg rs s.1 (g.2.2.2.2.2.2 (i + 1))).1), q_u] [] h3 := by
    refine q_goto 2985 dL_law_361 (by decide) ?_
    refine q_forget 6 ?_
    refine q_forget 7 ?_
    change q_W _ _ _ _ _ _ _ _ 2985 [.ref 0, .ref 100, .ref 215, .ref 223, .ref 224, .int (nI i), q_u, q_u, q_u] [] h3
    exact q_widen (by omega) (by omega) (K h3 ⟨_, _, _, _, _, _, _, _, _, _, _, _, _, _, _, _, _, _, _, _, _, _, w1.keep (q3.wide (by omega) (by omega)), ⟨_, ⟨_, _, _, _, _, _, _, _, _, m3⟩⟩, ⟨_, (q3.2 _ (by omega) (by omega)).trans c223b⟩, ⟨_, (q3.2 _ (by omega) (by omega)).trans c224b⟩, J2⟩)
  refine q_if_ne 361 dL_law_346 (by decide) (fun _ => fin) (fun b => ?_)
  have eo9 : (q_oI ((x_am_addArgument s nx kp rw (g.2.2.2.2.2.2 (i + 1))).1)) = .inl (some (.int ((x_mo_addArgument al cg rs s.1 (g.2.2.2.2.2.2 (i + 1))).1))) := by
    rcases ag with ⟨et, eo⟩ | ⟨et, eo⟩ | ⟨et, eo⟩
    · exact absurd (et.symm.trans b) (by decide)
    · exact absurd (et.symm.trans b) (by decide)
    · exact eo
  have ev := hf2 _ eo9
  refine q_aload_n (by first | assumption | (rw [q_R0e]; omega)) dL_law_349 rfl ?_
  refine q_iconst (v := 0) dL_law_350 rfl ?_
  refine q_lald (f := f2) dL_law_351 ((q3.2 _ (by omega) (by omega)).trans c223b) (vp_in_nI (n := 0) (N := 1) (by decide) (by decide)) ?_
  change q_W _ _ _ _ _ _ _ _ _ _ [.long (f2 0)] _
  rw [ev]
  refine q_iload dL_law_352 rfl ?_
  refine q_i2l dL_law_354 rfl ?_
  refine q_lcmp dL_law_355 ?_
  rw [z_lcmp]
  exact q_if_eq 361 dL_law_356 (by decide) (fun _ => fin) (fun b => absurd rfl b)
set_option maxRecDepth 100000 in
set_option maxHeartbeats 4000000 in
theorem l_c_removeArgument {g : q_G} {h : q_H} {d mc ms kc ks i t : Nat} {Q : q_O → q_H → Prop} (hP : z_P_removeArgument) (hI : z_I t h) (ht : t < 512) (hi : i + 2 < g.2.2.2.2.2.1) (hN : g.2.2.2.2.2.1 < 2 ^ 31) (ho : q_isold g 0) (hd : 26 ≤ d) (hkc : kc + 66 ≤ mc) (hks : ks + 10588 ≤ ms) (K : ∀ h2, z_I (t + 1) h2 → q_W g mL_law d mc ms Q (kc + 66) (ks + 10588) 2985 [.ref 0, .ref 100, .ref 215, .ref 223, .ref 224, .int (nI i), q_u, q_u, q_u] [] h2) : q_W g mL_law d mc ms Q kc ks 364 [.ref 0, .ref 100, .ref 215, .ref 223, .ref 224, .int (nI i), q_u, q_u, q_u] [] h := by
  obtain ⟨hs, se, sf, s, s1, nx, kp, rw, ic, fi, lc, fl, al, cg, sv, ad, ln, lz, ip, ty, ea, fa, wc, ⟨th, wm⟩, ⟨f, c223⟩, ⟨fd, c224⟩, J⟩ := hI
  obtain ⟨s2, ca, cj, co, won, lost, pf, cv, sc, pc, pp, po, vb, oa, ob, w⟩ := wc
  obtain ⟨rs, ac, rj, ro, bf, he, er, cm, cn, m⟩ := wm
  obtain ⟨e0, hn, e3, hm⟩ := J.n0
  obtain ⟨ag, J2⟩ := hP t hs se sf s s1 nx kp rw ic fi lc fl al cg sv ad ln lz ip ty ea fa rs (g.2.2.2.2.2.2 (i + 1)) ht J
  refine q_aload_n (by first | assumption | (rw [q_R0e]; omega)) dL_law_364 rfl ?_
  refine q_aload_nO ho dL_law_365 rfl ?_
  refine q_iload dL_law_366 rfl ?_
  refine q_iconst (v := 1) dL_law_368 rfl ?_
  refine q_iaddN (a := i) (b := 1) dL_law_369 ?_
  refine q_taldIN (by decide) dL_law_370 (rfl : q_ar g 0 = _) (by omega) hN ?_
  change q_W _ _ _ _ _ _ _ _ _ _ [.int (g.2.2.2.2.2.2 (i + 1)), .ref 100] _
  refine q_aload_n (by first | assumption | (rw [q_R0e]; omega)) dL_law_371 rfl ?_
  have ho9 : (∃ v, (q_oI ((x_am_removeArgument s nx kp rw (g.2.2.2.2.2.2 (i + 1))).1)) = .inl (some (.int v))) ∨ (q_oI ((x_am_removeArgument s nx kp rw (g.2.2.2.2.2.2 (i + 1))).1)) = .inr "java/util/NoSuchElementException" := by
    rcases ag with ⟨et, eo⟩ | ⟨et, eo⟩
    · exact Or.inr (eo)
    · exact Or.inl ⟨_, eo⟩
  have hcd : z_cd [("java/util/NoSuchElementException", 1)] (q_oI ((x_am_removeArgument s nx kp rw (g.2.2.2.2.2.2 (i + 1))).1)) = (x_mo_removeArgument al cg rs s.1 s.2.2.2.2.2.2.2.2.1 (g.2.2.2.2.2.2 (i + 1))).2.1 := by
    rcases ag with ⟨et, eo⟩ | ⟨et, eo⟩
    · rw [et, eo]; rfl
    · rw [et, eo]; rfl
  have hB9 : ∀ h1, (z_C h1 hs se sf ((x_am_removeArgument s nx kp rw (g.2.2.2.2.2.2 (i + 1))).2.1) s1 ((x_am_removeArgument s nx kp rw (g.2.2.2.2.2.2 (i + 1))).2.2.1) ((x_am_removeArgument s nx kp rw (g.2.2.2.2.2.2 (i + 1))).2.2.2.1) ((x_am_removeArgument s nx kp rw (g.2.2.2.2.2.2 (i + 1))).2.2.2.2) ic fi lc fl ∧ q_zone h h1 100 115) → h1.2 223 = some (.inl (4, 1, .inr (.inl f))) := fun h1 hb => (hb.2.2 _ (by omega) (by omega)).trans c223
  refine q_invSH (mc' := 4) (ms' := 24) (d' := d - 1) (as := [.ref 100, .int ((g.2.2.2.2.2.2 (i + 1))), .ref 223]) dL_law_372 kM_L_removeArgument kL_L_169 kT_L_removeArgument rfl rfl rfl (Nat.le_of_ble_eq_true rfl) (by omega) (by decide) (by omega) (by omega) (e_L_removeArgument (d := d - 1) (dd := d - 2) w.1.c0 hB9 ho9 (c_removeArgument (g := g) (h := h) (d := d - 2) w (g.2.2.2.2.2.2 (i + 1)) (by omega)) (by omega)) (q_kC (fun h1 hB => ?_)) q_xC
  obtain ⟨h0, ⟨wc1, q1⟩, e9⟩ := hB
  obtain ⟨f2, c223b, hf2⟩ := z_outL_c (o := q_oI ((x_am_removeArgument s nx kp rw (g.2.2.2.2.2.2 (i + 1))).1)) (hB9 h0 ⟨wc1, q1⟩)
  have qs : q_same h0 h1 223 1 := e9 ▸ z_outL_same
  rw [← e9] at c223b
  clear e9
  have hz : 225 ≤ h.1 := w.2.2.2.2.2.2.2.2.2.s0
  have hz0 : h.1 ≤ h0.1 := q1.1
  have c224b : h1.2 224 = _ := (qs.2 _ (by omega) (by omega)).trans ((q1.2 _ (by omega) (by omega)).trans c224)
  have w1 := wc1.keep (qs.wide (by omega) (by omega))
  have m1 := m.keepI (h1 := h1) (Nat.le_trans q1.1 qs.1) (fun j b1 b2 => (qs.2 j (by omega) (by omega)).trans (q1.2 j (by omega) (by omega)))
  clear wc1 hB9 ho9 m
  change q_W _ _ _ _ _ _ _ _ 375 [.ref 0, .ref 100, .ref 215, .ref 223, .ref 224, .int (nI i), q_u, q_u, q_u] [.int (z_cd [("java/util/NoSuchElementException", 1)] (q_oI ((x_am_removeArgument s nx kp rw (g.2.2.2.2.2.2 (i + 1))).1)))] h1
  rw [hcd]
  refine q_istore dL_law_375 (by decide) rfl ?_
  change q_W _ _ _ _ _ _ _ _ 377 [.ref 0, .ref 100, .ref 215, .ref 223, .ref 224, .int (nI i), .int ((x_mo_removeArgument al cg rs s.1 s.2.2.2.2.2.2.2.2.1 (g.2.2.2.2.2.2 (i + 1))).2.1), q_u, q_u] [] h1
  refine q_aload_n (by first | assumption | (rw [q_R0e]; omega)) dL_law_377 rfl ?_
  refine q_aload_nO ho dL_law_378 rfl ?_
  refine q_iload dL_law_379 rfl ?_
  refine q_iconst (v := 1) dL_law_381 rfl ?_
  refine q_iaddN (a := i) (b := 1) dL_law_382 ?_
  refine q_taldIN (by decide) dL_law_383 (rfl : q_ar g 0 = _) (by omega) hN ?_
  change q_W _ _ _ _ _ _ _ _ _ _ [.int (g.2.2.2.2.2.2 (i + 1)), .ref 215] _
  refine q_invV (mc' := 0) (ms' := 0) (d' := d - 1) (as := [.int ((g.2.2.2.2.2.2 (i + 1)))]) dL_law_384 kM_X11_removeArgument kL_L_171 kI_X11_removeArgument kS_X11_removeArgument rfl (kC_X11.1) m1.c0 rfl rfl (Nat.le_of_ble_eq_true rfl) (by omega) (by decide) (by omega) (by omega) (r_removeArgument (g := g) (d := d - 1) m1 e0 hn e3 hm (g.2.2.2.2.2.2 (i + 1)) (by omega)) (q_kC (fun h3 hB3 => ?_)) q_xC
  obtain ⟨m3, q3⟩ := hB3
  obtain ⟨rs3, ac3, rj3, ro3, bf3, he3, er3, cm3, cn3, m3⟩ := m3
  change q_W _ _ _ _ _ _ _ _ 387 [.ref 0, .ref 100, .ref 215, .ref 223, .ref 224, .int (nI i), .int ((x_mo_removeArgument al cg rs s.1 s.2.2.2.2.2.2.2.2.1 (g.2.2.2.2.2.2 (i + 1))).2.1), q_u, q_u] [.int ((x_mo_removeArgument al cg rs s.1 s.2.2.2.2.2.2.2.2.1 (g.2.2.2.2.2.2 (i + 1))).1)] h3
  refine q_istore dL_law_387 (by decide) rfl ?_
  change q_W _ _ _ _ _ _ _ _ 389 [.ref 0, .ref 100, .ref 215, .ref 223, .ref 224, .int (nI i), .int ((x_mo_removeArgument al cg rs s.1 s.2.2.2.2.2.2.2.2.1 (g.2.2.2.2.2.2 (i + 1))).2.1), .int ((x_mo_removeArgument al cg rs s.1 s.2.2.2.2.2.2.2.2.1 (g.2.2.2.2.2.2 (i + 1))).1), q_u] [] h3
  refine q_aload_n (by first | assumption | (rw [q_R0e]; omega)) dL_law_389 rfl ?_
  refine q_invV (mc' := 0) (ms' := 0) (d' := d - 1) (as := []) dL_law_390 kM_X11_thrown kL_L_166 kI_X11_thrown kS_X11_thrown rfl (kC_X11.1) m3.c0 rfl rfl (Nat.le_of_ble_eq_true rfl) (by omega) (by decide) (by omega) (by omega) (e_mo_thrownR (d := d - 1) m3 (by omega)) (q_kR ?_) q_xR
  change q_W _ _ _ _ _ _ _ _ 393 [.ref 0, .ref 100, .ref 215, .ref 223, .ref 224, .int (nI i), .int ((x_mo_removeArgument al cg rs s.1 s.2.2.2.2.2.2.2.2.1 (g.2.2.2.2.2.2 (i + 1))).2.1), .int ((x_mo_removeArgument al cg rs s.1 s.2.2.2.2.2.2.2.2.1 (g.2.2.2.2.2.2 (i + 1))).1), q_u] [.int ((x_mo_removeArgument al cg rs s.1 s.2.2.2.2.2.2.2.2.1 (g.2.2.2.2.2.2 (i + 1))).2.1)] h3
  refine q_iload dL_law_393 rfl ?_
  refine q_icmp_eq 400 dL_law_395 (by decide) (fun _ => ?_) (fun b => absurd rfl b)
  refine q_iload dL_law_400 rfl ?_
  have hz3 : h1.1 ≤ h3.1 := q3.1
  have hz4 : h0.1 ≤ h1.1 := qs.1
  have fin : q_W g mL_law d mc ms Q (kc + 4) (ks + 24) 417 [.ref 0, .ref 100, .ref 215, .ref 223, .ref 224, .int (nI i), .int ((x_mo_removeArgument al cg rs s.1 s.2.2.2.2.2.2.2.2.1 (g.2.2.2.2.2.2 (i + 1))).2.1), .int ((x_mo_removeArgument al cg rs s.1 s.2.2.2.2.2.2.2.2.1 (g.2.2.2.2.2.2 (i + 1))).1), q_u] [] h3 := by
    refine q_goto 2985 dL_law_417 (by decide) ?_
    refine q_forget 6 ?_
    refine q_forget 7 ?_
    change q_W _ _ _ _ _ _ _ _ 2985 [.ref 0, .ref 100, .ref 215, .ref 223, .ref 224, .int (nI i), q_u, q_u, q_u] [] h3
    exact q_widen (by omega) (by omega) (K h3 ⟨_, _, _, _, _, _, _, _, _, _, _, _, _, _, _, _, _, _, _, _, _, _, w1.keep (q3.wide (by omega) (by omega)), ⟨_, ⟨_, _, _, _, _, _, _, _, _, m3⟩⟩, ⟨_, (q3.2 _ (by omega) (by omega)).trans c223b⟩, ⟨_, (q3.2 _ (by omega) (by omega)).trans c224b⟩, J2⟩)
  refine q_if_ne 417 dL_law_402 (by decide) (fun _ => fin) (fun b => ?_)
  have eo9 : (q_oI ((x_am_removeArgument s nx kp rw (g.2.2.2.2.2.2 (i + 1))).1)) = .inl (some (.int ((x_mo_removeArgument al cg rs s.1 s.2.2.2.2.2.2.2.2.1 (g.2.2.2.2.2.2 (i + 1))).1))) := by
    rcases ag with ⟨et, eo⟩ | ⟨et, eo⟩
    · exact absurd (et.symm.trans b) (by decide)
    · exact eo
  have ev := hf2 _ eo9
  refine q_aload_n (by first | assumption | (rw [q_R0e]; omega)) dL_law_405 rfl ?_
  refine q_iconst (v := 0) dL_law_406 rfl ?_
  refine q_lald (f := f2) dL_law_407 ((q3.2 _ (by omega) (by omega)).trans c223b) (vp_in_nI (n := 0) (N := 1) (by decide) (by decide)) ?_
  change q_W _ _ _ _ _ _ _ _ _ _ [.long (f2 0)] _
  rw [ev]
  refine q_iload dL_law_408 rfl ?_
  refine q_i2l dL_law_410 rfl ?_
  refine q_lcmp dL_law_411 ?_
  rw [z_lcmp]
  exact q_if_eq 417 dL_law_412 (by decide) (fun _ => fin) (fun b => absurd rfl b)
set_option maxRecDepth 100000 in
set_option maxHeartbeats 4000000 in
theorem l_c_addAttack {g : q_G} {h : q_H} {d mc ms kc ks i t : Nat} {Q : q_O → q_H → Prop} (hP : z_P_addAttack) (hI : z_I t h) (ht : t < 512) (hi : i + 2 < g.2.2.2.2.2.1) (hN : g.2.2.2.2.2.1 < 2 ^ 31) (ho : q_isold g 0) (hd : 26 ≤ d) (hkc : kc + 66 ≤ mc) (hks : ks + 10588 ≤ ms) (K : ∀ h2, z_I (t + 1) h2 → q_W g mL_law d mc ms Q (kc + 66) (ks + 10588) 2985 [.ref 0, .ref 100, .ref 215, .ref 223, .ref 224, .int (nI i), q_u, q_u, q_u] [] h2) : q_W g mL_law d mc ms Q kc ks 420 [.ref 0, .ref 100, .ref 215, .ref 223, .ref 224, .int (nI i), q_u, q_u, q_u] [] h := by
  obtain ⟨hs, se, sf, s, s1, nx, kp, rw, ic, fi, lc, fl, al, cg, sv, ad, ln, lz, ip, ty, ea, fa, wc, ⟨th, wm⟩, ⟨f, c223⟩, ⟨fd, c224⟩, J⟩ := hI
  obtain ⟨s2, ca, cj, co, won, lost, pf, cv, sc, pc, pp, po, vb, oa, ob, w⟩ := wc
  obtain ⟨rs, ac, rj, ro, bf, he, er, cm, cn, m⟩ := wm
  obtain ⟨e0, hn, e3, hm⟩ := J.n0
  obtain ⟨ag, J2⟩ := hP t hs se sf s s1 nx kp rw ic fi lc fl al cg sv ad ln lz ip ty ea fa rs (g.2.2.2.2.2.2 (i + 1)) (g.2.2.2.2.2.2 (i + 2)) ht J
  refine q_aload_n (by first | assumption | (rw [q_R0e]; omega)) dL_law_420 rfl ?_
  refine q_aload_nO ho dL_law_421 rfl ?_
  refine q_iload dL_law_422 rfl ?_
  refine q_iconst (v := 1) dL_law_424 rfl ?_
  refine q_iaddN (a := i) (b := 1) dL_law_425 ?_
  refine q_taldIN (by decide) dL_law_426 (rfl : q_ar g 0 = _) (by omega) hN ?_
  change q_W _ _ _ _ _ _ _ _ _ _ [.int (g.2.2.2.2.2.2 (i + 1)), .ref 100] _
  refine q_aload_nO ho dL_law_427 rfl ?_
  refine q_iload dL_law_428 rfl ?_
  refine q_iconst (v := 2) dL_law_430 rfl ?_
  refine q_iaddN (a := i) (b := 2) dL_law_431 ?_
  refine q_taldIN (by decide) dL_law_432 (rfl : q_ar g 0 = _) (by omega) hN ?_
  change q_W _ _ _ _ _ _ _ _ _ _ [.int (g.2.2.2.2.2.2 (i + 2)), .int ((g.2.2.2.2.2.2 (i + 1))), .ref 100] _
  refine q_aload_n (by first | assumption | (rw [q_R0e]; omega)) dL_law_433 rfl ?_
  have ho9 : (∃ v, (q_oI ((x_am_addAttack s nx kp rw (g.2.2.2.2.2.2 (i + 1)) (g.2.2.2.2.2.2 (i + 2))).1)) = .inl (some (.int v))) ∨ (q_oI ((x_am_addAttack s nx kp rw (g.2.2.2.2.2.2 (i + 1)) (g.2.2.2.2.2.2 (i + 2))).1)) = .inr "java/util/NoSuchElementException" ∨ (q_oI ((x_am_addAttack s nx kp rw (g.2.2.2.2.2.2 (i + 1)) (g.2.2.2.2.2.2 (i + 2))).1)) = .inr "java/lang/IllegalArgumentException" ∨ (q_oI ((x_am_addAttack s nx kp rw (g.2.2.2.2.2.2 (i + 1)) (g.2.2.2.2.2.2 (i + 2))).1)) = .inr "java/lang/IllegalStateException" := by
    rcases ag with ⟨et, eo⟩ | ⟨et, eo⟩ | ⟨et, eo⟩ | ⟨et, eo⟩
    · exact Or.inr (Or.inl eo)
    · exact Or.inr (Or.inr (Or.inl eo))
    · exact Or.inr (Or.inr (Or.inr (eo)))
    · exact Or.inl ⟨_, eo⟩
  have hcd : z_cd [("java/util/NoSuchElementException", 1), ("java/lang/IllegalArgumentException", 2), ("java/lang/IllegalStateException", 3)] (q_oI ((x_am_addAttack s nx kp rw (g.2.2.2.2.2.2 (i + 1)) (g.2.2.2.2.2.2 (i + 2))).1)) = (x_mo_addAttack al cg rs s.1 (g.2.2.2.2.2.2 (i + 1)) (g.2.2.2.2.2.2 (i + 2))).2.1 := by
    rcases ag with ⟨et, eo⟩ | ⟨et, eo⟩ | ⟨et, eo⟩ | ⟨et, eo⟩
    · rw [et, eo]; rfl
    · rw [et, eo]; rfl
    · rw [et, eo]; rfl
    · rw [et, eo]; rfl
  have hB9 : ∀ h1, (z_C h1 hs se sf ((x_am_addAttack s nx kp rw (g.2.2.2.2.2.2 (i + 1)) (g.2.2.2.2.2.2 (i + 2))).2.1) s1 ((x_am_addAttack s nx kp rw (g.2.2.2.2.2.2 (i + 1)) (g.2.2.2.2.2.2 (i + 2))).2.2.1) ((x_am_addAttack s nx kp rw (g.2.2.2.2.2.2 (i + 1)) (g.2.2.2.2.2.2 (i + 2))).2.2.2.1) ((x_am_addAttack s nx kp rw (g.2.2.2.2.2.2 (i + 1)) (g.2.2.2.2.2.2 (i + 2))).2.2.2.2) ic fi lc fl ∧ q_zone h h1 100 115) → h1.2 223 = some (.inl (4, 1, .inr (.inl f))) := fun h1 hb => (hb.2.2 _ (by omega) (by omega)).trans c223
  refine q_invSH (mc' := 4) (ms' := 24) (d' := d - 1) (as := [.ref 100, .int ((g.2.2.2.2.2.2 (i + 1))), .int ((g.2.2.2.2.2.2 (i + 2))), .ref 223]) dL_law_434 kM_L_addAttack kL_L_172 kT_L_addAttack rfl rfl rfl (Nat.le_of_ble_eq_true rfl) (by omega) (by decide) (by omega) (by omega) (e_L_addAttack (d := d - 1) (dd := d - 2) w.1.c0 hB9 ho9 (c_addAttack (g := g) (h := h) (d := d - 2) w (g.2.2.2.2.2.2 (i + 1)) (g.2.2.2.2.2.2 (i + 2)) (by omega)) (by omega)) (q_kC (fun h1 hB => ?_)) q_xC
  obtain ⟨h0, ⟨wc1, q1⟩, e9⟩ := hB
  obtain ⟨f2, c223b, hf2⟩ := z_outL_c (o := q_oI ((x_am_addAttack s nx kp rw (g.2.2.2.2.2.2 (i + 1)) (g.2.2.2.2.2.2 (i + 2))).1)) (hB9 h0 ⟨wc1, q1⟩)
  have qs : q_same h0 h1 223 1 := e9 ▸ z_outL_same
  rw [← e9] at c223b
  clear e9
  have hz : 225 ≤ h.1 := w.2.2.2.2.2.2.2.2.2.s0
  have hz0 : h.1 ≤ h0.1 := q1.1
  have c224b : h1.2 224 = _ := (qs.2 _ (by omega) (by omega)).trans ((q1.2 _ (by omega) (by omega)).trans c224)
  have w1 := wc1.keep (qs.wide (by omega) (by omega))
  have m1 := m.keepI (h1 := h1) (Nat.le_trans q1.1 qs.1) (fun j b1 b2 => (qs.2 j (by omega) (by omega)).trans (q1.2 j (by omega) (by omega)))
  clear wc1 hB9 ho9 m
  change q_W _ _ _ _ _ _ _ _ 437 [.ref 0, .ref 100, .ref 215, .ref 223, .ref 224, .int (nI i), q_u, q_u, q_u] [.int (z_cd [("java/util/NoSuchElementException", 1), ("java/lang/IllegalArgumentException", 2), ("java/lang/IllegalStateException", 3)] (q_oI ((x_am_addAttack s nx kp rw (g.2.2.2.2.2.2 (i + 1)) (g.2.2.2.2.2.2 (i + 2))).1)))] h1
  rw [hcd]
  refine q_istore dL_law_437 (by decide) rfl ?_
  change q_W _ _ _ _ _ _ _ _ 439 [.ref 0, .ref 100, .ref 215, .ref 223, .ref 224, .int (nI i), .int ((x_mo_addAttack al cg rs s.1 (g.2.2.2.2.2.2 (i + 1)) (g.2.2.2.2.2.2 (i + 2))).2.1), q_u, q_u] [] h1
  refine q_aload_n (by first | assumption | (rw [q_R0e]; omega)) dL_law_439 rfl ?_
  refine q_aload_nO ho dL_law_440 rfl ?_
  refine q_iload dL_law_441 rfl ?_
  refine q_iconst (v := 1) dL_law_443 rfl ?_
  refine q_iaddN (a := i) (b := 1) dL_law_444 ?_
  refine q_taldIN (by decide) dL_law_445 (rfl : q_ar g 0 = _) (by omega) hN ?_
  change q_W _ _ _ _ _ _ _ _ _ _ [.int (g.2.2.2.2.2.2 (i + 1)), .ref 215] _
  refine q_aload_nO ho dL_law_446 rfl ?_
  refine q_iload dL_law_447 rfl ?_
  refine q_iconst (v := 2) dL_law_449 rfl ?_
  refine q_iaddN (a := i) (b := 2) dL_law_450 ?_
  refine q_taldIN (by decide) dL_law_451 (rfl : q_ar g 0 = _) (by omega) hN ?_
  change q_W _ _ _ _ _ _ _ _ _ _ [.int (g.2.2.2.2.2.2 (i + 2)), .int ((g.2.2.2.2.2.2 (i + 1))), .ref 215] _
  refine q_invV (mc' := 0) (ms' := 0) (d' := d - 1) (as := [.int ((g.2.2.2.2.2.2 (i + 1))), .int ((g.2.2.2.2.2.2 (i + 2)))]) dL_law_452 kM_X11_addAttack kL_L_175 kI_X11_addAttack kS_X11_addAttack rfl (kC_X11.1) m1.c0 rfl rfl (Nat.le_of_ble_eq_true rfl) (by omega) (by decide) (by omega) (by omega) (r_addAttack (g := g) (d := d - 1) m1 e0 hn e3 hm (g.2.2.2.2.2.2 (i + 1)) (g.2.2.2.2.2.2 (i + 2)) (by omega)) (q_kC (fun h3 hB3 => ?_)) q_xC
  obtain ⟨m3, q3⟩ := hB3
  obtain ⟨rs3, ac3, rj3, ro3, bf3, he3, er3, cm3, cn3, m3⟩ := m3
  change q_W _ _ _ _ _ _ _ _ 455 [.ref 0, .ref 100, .ref 215, .ref 223, .ref 224, .int (nI i), .int ((x_mo_addAttack al cg rs s.1 (g.2.2.2.2.2.2 (i + 1)) (g.2.2.2.2.2.2 (i + 2))).2.1), q_u, q_u] [.int ((x_mo_addAttack al cg rs s.1 (g.2.2.2.2.2.2 (i + 1)) (g.2.2.2.2.2.2 (i + 2))).1)] h3
  refine q_istore dL_law_455 (by decide) rfl ?_
  change q_W _ _ _ _ _ _ _ _ 457 [.ref 0, .ref 100, .ref 215, .ref 223, .ref 224, .int (nI i), .int ((x_mo_addAttack al cg rs s.1 (g.2.2.2.2.2.2 (i + 1)) (g.2.2.2.2.2.2 (i + 2))).2.1), .int ((x_mo_addAttack al cg rs s.1 (g.2.2.2.2.2.2 (i + 1)) (g.2.2.2.2.2.2 (i + 2))).1), q_u] [] h3
  refine q_aload_n (by first | assumption | (rw [q_R0e]; omega)) dL_law_457 rfl ?_
  refine q_invV (mc' := 0) (ms' := 0) (d' := d - 1) (as := []) dL_law_458 kM_X11_thrown kL_L_166 kI_X11_thrown kS_X11_thrown rfl (kC_X11.1) m3.c0 rfl rfl (Nat.le_of_ble_eq_true rfl) (by omega) (by decide) (by omega) (by omega) (e_mo_thrownR (d := d - 1) m3 (by omega)) (q_kR ?_) q_xR
  change q_W _ _ _ _ _ _ _ _ 461 [.ref 0, .ref 100, .ref 215, .ref 223, .ref 224, .int (nI i), .int ((x_mo_addAttack al cg rs s.1 (g.2.2.2.2.2.2 (i + 1)) (g.2.2.2.2.2.2 (i + 2))).2.1), .int ((x_mo_addAttack al cg rs s.1 (g.2.2.2.2.2.2 (i + 1)) (g.2.2.2.2.2.2 (i + 2))).1), q_u] [.int ((x_mo_addAttack al cg rs s.1 (g.2.2.2.2.2.2 (i + 1)) (g.2.2.2.2.2.2 (i + 2))).2.1)] h3
  refine q_iload dL_law_461 rfl ?_
  refine q_icmp_eq 468 dL_law_463 (by decide) (fun _ => ?_) (fun b => absurd rfl b)
  refine q_iload dL_law_468 rfl ?_
  have hz3 : h1.1 ≤ h3.1 := q3.1
  have hz4 : h0.1 ≤ h1.1 := qs.1
  have fin : q_W g mL_law d mc ms Q (kc + 4) (ks + 24) 485 [.ref 0, .ref 100, .ref 215, .ref 223, .ref 224, .int (nI i), .int ((x_mo_addAttack al cg rs s.1 (g.2.2.2.2.2.2 (i + 1)) (g.2.2.2.2.2.2 (i + 2))).2.1), .int ((x_mo_addAttack al cg rs s.1 (g.2.2.2.2.2.2 (i + 1)) (g.2.2.2.2.2.2 (i + 2))).1), q_u] [] h3 := by
    refine q_goto 2985 dL_law_485 (by decide) ?_
    refine q_forget 6 ?_
    refine q_forget 7 ?_
    change q_W _ _ _ _ _ _ _ _ 2985 [.ref 0, .ref 100, .ref 215, .ref 223, .ref 224, .int (nI i), q_u, q_u, q_u] [] h3
    exact q_widen (by omega) (by omega) (K h3 ⟨_, _, _, _, _, _, _, _, _, _, _, _, _, _, _, _, _, _, _, _, _, _, w1.keep (q3.wide (by omega) (by omega)), ⟨_, ⟨_, _, _, _, _, _, _, _, _, m3⟩⟩, ⟨_, (q3.2 _ (by omega) (by omega)).trans c223b⟩, ⟨_, (q3.2 _ (by omega) (by omega)).trans c224b⟩, J2⟩)
  refine q_if_ne 485 dL_law_470 (by decide) (fun _ => fin) (fun b => ?_)
  have eo9 : (q_oI ((x_am_addAttack s nx kp rw (g.2.2.2.2.2.2 (i + 1)) (g.2.2.2.2.2.2 (i + 2))).1)) = .inl (some (.int ((x_mo_addAttack al cg rs s.1 (g.2.2.2.2.2.2 (i + 1)) (g.2.2.2.2.2.2 (i + 2))).1))) := by
    rcases ag with ⟨et, eo⟩ | ⟨et, eo⟩ | ⟨et, eo⟩ | ⟨et, eo⟩
    · exact absurd (et.symm.trans b) (by decide)
    · exact absurd (et.symm.trans b) (by decide)
    · exact absurd (et.symm.trans b) (by decide)
    · exact eo
  have ev := hf2 _ eo9
  refine q_aload_n (by first | assumption | (rw [q_R0e]; omega)) dL_law_473 rfl ?_
  refine q_iconst (v := 0) dL_law_474 rfl ?_
  refine q_lald (f := f2) dL_law_475 ((q3.2 _ (by omega) (by omega)).trans c223b) (vp_in_nI (n := 0) (N := 1) (by decide) (by decide)) ?_
  change q_W _ _ _ _ _ _ _ _ _ _ [.long (f2 0)] _
  rw [ev]
  refine q_iload dL_law_476 rfl ?_
  refine q_i2l dL_law_478 rfl ?_
  refine q_lcmp dL_law_479 ?_
  rw [z_lcmp]
  exact q_if_eq 485 dL_law_480 (by decide) (fun _ => fin) (fun b => absurd rfl b)
set_option maxRecDepth 100000 in
set_option maxHeartbeats 4000000 in
theorem l_c_removeAttack {g : q_G} {h : q_H} {d mc ms kc ks i t : Nat} {Q : q_O → q_H → Prop} (hP : z_P_removeAttack) (hI : z_I t h) (ht : t < 512) (hi : i + 2 < g.2.2.2.2.2.1) (hN : g.2.2.2.2.2.1 < 2 ^ 31) (ho : q_isold g 0) (hd : 26 ≤ d) (hkc : kc + 66 ≤ mc) (hks : ks + 10588 ≤ ms) (K : ∀ h2, z_I (t + 1) h2 → q_W g mL_law d mc ms Q (kc + 66) (ks + 10588) 2985 [.ref 0, .ref 100, .ref 215, .ref 223, .ref 224, .int (nI i), q_u, q_u, q_u] [] h2) : q_W g mL_law d mc ms Q kc ks 488 [.ref 0, .ref 100, .ref 215, .ref 223, .ref 224, .int (nI i), q_u, q_u, q_u] [] h := by
  obtain ⟨hs, se, sf, s, s1, nx, kp, rw, ic, fi, lc, fl, al, cg, sv, ad, ln, lz, ip, ty, ea, fa, wc, ⟨th, wm⟩, ⟨f, c223⟩, ⟨fd, c224⟩, J⟩ := hI
  obtain ⟨s2, ca, cj, co, won, lost, pf, cv, sc, pc, pp, po, vb, oa, ob, w⟩ := wc
  obtain ⟨rs, ac, rj, ro, bf, he, er, cm, cn, m⟩ := wm
  obtain ⟨e0, hn, e3, hm⟩ := J.n0
  obtain ⟨ag, J2⟩ := hP t hs se sf s s1 nx kp rw ic fi lc fl al cg sv ad ln lz ip ty ea fa rs (g.2.2.2.2.2.2 (i + 1)) (g.2.2.2.2.2.2 (i + 2)) ht J
  refine q_aload_n (by first | assumption | (rw [q_R0e]; omega)) dL_law_488 rfl ?_
  refine q_aload_nO ho dL_law_489 rfl ?_
  refine q_iload dL_law_490 rfl ?_
  refine q_iconst (v := 1) dL_law_492 rfl ?_
  refine q_iaddN (a := i) (b := 1) dL_law_493 ?_
  refine q_taldIN (by decide) dL_law_494 (rfl : q_ar g 0 = _) (by omega) hN ?_
  change q_W _ _ _ _ _ _ _ _ _ _ [.int (g.2.2.2.2.2.2 (i + 1)), .ref 100] _
  refine q_aload_nO ho dL_law_495 rfl ?_
  refine q_iload dL_law_496 rfl ?_
  refine q_iconst (v := 2) dL_law_498 rfl ?_
  refine q_iaddN (a := i) (b := 2) dL_law_499 ?_
  refine q_taldIN (by decide) dL_law_500 (rfl : q_ar g 0 = _) (by omega) hN ?_
  change q_W _ _ _ _ _ _ _ _ _ _ [.int (g.2.2.2.2.2.2 (i + 2)), .int ((g.2.2.2.2.2.2 (i + 1))), .ref 100] _
  refine q_aload_n (by first | assumption | (rw [q_R0e]; omega)) dL_law_501 rfl ?_
  have ho9 : (∃ v, (q_oI ((x_am_removeAttack s nx kp rw (g.2.2.2.2.2.2 (i + 1)) (g.2.2.2.2.2.2 (i + 2))).1)) = .inl (some (.int v))) ∨ (q_oI ((x_am_removeAttack s nx kp rw (g.2.2.2.2.2.2 (i + 1)) (g.2.2.2.2.2.2 (i + 2))).1)) = .inr "java/util/NoSuchElementException" := by
    rcases ag with ⟨et, eo⟩ | ⟨et, eo⟩
    · exact Or.inr (eo)
    · exact Or.inl ⟨_, eo⟩
  have hcd : z_cd [("java/util/NoSuchElementException", 1)] (q_oI ((x_am_removeAttack s nx kp rw (g.2.2.2.2.2.2 (i + 1)) (g.2.2.2.2.2.2 (i + 2))).1)) = (x_mo_removeAttack al cg rs s.1 (g.2.2.2.2.2.2 (i + 1)) (g.2.2.2.2.2.2 (i + 2))).2.1 := by
    rcases ag with ⟨et, eo⟩ | ⟨et, eo⟩
    · rw [et, eo]; rfl
    · rw [et, eo]; rfl
  have hB9 : ∀ h1, (z_C h1 hs se sf ((x_am_removeAttack s nx kp rw (g.2.2.2.2.2.2 (i + 1)) (g.2.2.2.2.2.2 (i + 2))).2.1) s1 ((x_am_removeAttack s nx kp rw (g.2.2.2.2.2.2 (i + 1)) (g.2.2.2.2.2.2 (i + 2))).2.2.1) ((x_am_removeAttack s nx kp rw (g.2.2.2.2.2.2 (i + 1)) (g.2.2.2.2.2.2 (i + 2))).2.2.2.1) ((x_am_removeAttack s nx kp rw (g.2.2.2.2.2.2 (i + 1)) (g.2.2.2.2.2.2 (i + 2))).2.2.2.2) ic fi lc fl ∧ q_zone h h1 100 115) → h1.2 223 = some (.inl (4, 1, .inr (.inl f))) := fun h1 hb => (hb.2.2 _ (by omega) (by omega)).trans c223
  refine q_invSH (mc' := 4) (ms' := 24) (d' := d - 1) (as := [.ref 100, .int ((g.2.2.2.2.2.2 (i + 1))), .int ((g.2.2.2.2.2.2 (i + 2))), .ref 223]) dL_law_502 kM_L_removeAttack kL_L_176 kT_L_removeAttack rfl rfl rfl (Nat.le_of_ble_eq_true rfl) (by omega) (by decide) (by omega) (by omega) (e_L_removeAttack (d := d - 1) (dd := d - 2) w.1.c0 hB9 ho9 (c_removeAttack (g := g) (h := h) (d := d - 2) w (g.2.2.2.2.2.2 (i + 1)) (g.2.2.2.2.2.2 (i + 2)) (by omega)) (by omega)) (q_kC (fun h1 hB => ?_)) q_xC
  obtain ⟨h0, ⟨wc1, q1⟩, e9⟩ := hB
  obtain ⟨f2, c223b, hf2⟩ := z_outL_c (o := q_oI ((x_am_removeAttack s nx kp rw (g.2.2.2.2.2.2 (i + 1)) (g.2.2.2.2.2.2 (i + 2))).1)) (hB9 h0 ⟨wc1, q1⟩)
  have qs : q_same h0 h1 223 1 := e9 ▸ z_outL_same
  rw [← e9] at c223b
  clear e9
  have hz : 225 ≤ h.1 := w.2.2.2.2.2.2.2.2.2.s0
  have hz0 : h.1 ≤ h0.1 := q1.1
  have c224b : h1.2 224 = _ := (qs.2 _ (by omega) (by omega)).trans ((q1.2 _ (by omega) (by omega)).trans c224)
  have w1 := wc1.keep (qs.wide (by omega) (by omega))
  have m1 := m.keepI (h1 := h1) (Nat.le_trans q1.1 qs.1) (fun j b1 b2 => (qs.2 j (by omega) (by omega)).trans (q1.2 j (by omega) (by omega)))
  clear wc1 hB9 ho9 m
  change q_W _ _ _ _ _ _ _ _ 505 [.ref 0, .ref 100, .ref 215, .ref 223, .ref 224, .int (nI i), q_u, q_u, q_u] [.int (z_cd [("java/util/NoSuchElementException", 1)] (q_oI ((x_am_removeAttack s nx kp rw (g.2.2.2.2.2.2 (i + 1)) (g.2.2.2.2.2.2 (i + 2))).1)))] h1
  rw [hcd]
  refine q_istore dL_law_505 (by decide) rfl ?_
  change q_W _ _ _ _ _ _ _ _ 507 [.ref 0, .ref 100, .ref 215, .ref 223, .ref 224, .int (nI i), .int ((x_mo_removeAttack al cg rs s.1 (g.2.2.2.2.2.2 (i + 1)) (g.2.2.2.2.2.2 (i + 2))).2.1), q_u, q_u] [] h1
  refine q_aload_n (by first | assumption | (rw [q_R0e]; omega)) dL_law_507 rfl ?_
  refine q_aload_nO ho dL_law_508 rfl ?_
  refine q_iload dL_law_509 rfl ?_
  refine q_iconst (v := 1) dL_law_511 rfl ?_
  refine q_iaddN (a := i) (b := 1) dL_law_512 ?_
  refine q_taldIN (by decide) dL_law_513 (rfl : q_ar g 0 = _) (by omega) hN ?_
  change q_W _ _ _ _ _ _ _ _ _ _ [.int (g.2.2.2.2.2.2 (i + 1)), .ref 215] _
  refine q_aload_nO ho dL_law_514 rfl ?_
  refine q_iload dL_law_515 rfl ?_
  refine q_iconst (v := 2) dL_law_517 rfl ?_
  refine q_iaddN (a := i) (b := 2) dL_law_518 ?_
  refine q_taldIN (by decide) dL_law_519 (rfl : q_ar g 0 = _) (by omega) hN ?_
  change q_W _ _ _ _ _ _ _ _ _ _ [.int (g.2.2.2.2.2.2 (i + 2)), .int ((g.2.2.2.2.2.2 (i + 1))), .ref 215] _
  refine q_invV (mc' := 0) (ms' := 0) (d' := d - 1) (as := [.int ((g.2.2.2.2.2.2 (i + 1))), .int ((g.2.2.2.2.2.2 (i + 2)))]) dL_law_520 kM_X11_removeAttack kL_L_178 kI_X11_removeAttack kS_X11_removeAttack rfl (kC_X11.1) m1.c0 rfl rfl (Nat.le_of_ble_eq_true rfl) (by omega) (by decide) (by omega) (by omega) (r_removeAttack (g := g) (d := d - 1) m1 e0 hn e3 hm (g.2.2.2.2.2.2 (i + 1)) (g.2.2.2.2.2.2 (i + 2)) (by omega)) (q_kC (fun h3 hB3 => ?_)) q_xC
  obtain ⟨m3, q3⟩ := hB3
  obtain ⟨rs3, ac3, rj3, ro3, bf3, he3, er3, cm3, cn3, m3⟩ := m3
  change q_W _ _ _ _ _ _ _ _ 523 [.ref 0, .ref 100, .ref 215, .ref 223, .ref 224, .int (nI i), .int ((x_mo_removeAttack al cg rs s.1 (g.2.2.2.2.2.2 (i + 1)) (g.2.2.2.2.2.2 (i + 2))).2.1), q_u, q_u] [.int ((x_mo_removeAttack al cg rs s.1 (g.2.2.2.2.2.2 (i + 1)) (g.2.2.2.2.2.2 (i + 2))).1)] h3
  refine q_istore dL_law_523 (by decide) rfl ?_
  change q_W _ _ _ _ _ _ _ _ 525 [.ref 0, .ref 100, .ref 215, .ref 223, .ref 224, .int (nI i), .int ((x_mo_removeAttack al cg rs s.1 (g.2.2.2.2.2.2 (i + 1)) (g.2.2.2.2.2.2 (i + 2))).2.1), .int ((x_mo_removeAttack al cg rs s.1 (g.2.2.2.2.2.2 (i + 1)) (g.2.2.2.2.2.2 (i + 2))).1), q_u] [] h3
  refine q_aload_n (by first | assumption | (rw [q_R0e]; omega)) dL_law_525 rfl ?_
  refine q_invV (mc' := 0) (ms' := 0) (d' := d - 1) (as := []) dL_law_526 kM_X11_thrown kL_L_166 kI_X11_thrown kS_X11_thrown rfl (kC_X11.1) m3.c0 rfl rfl (Nat.le_of_ble_eq_true rfl) (by omega) (by decide) (by omega) (by omega) (e_mo_thrownR (d := d - 1) m3 (by omega)) (q_kR ?_) q_xR
  change q_W _ _ _ _ _ _ _ _ 529 [.ref 0, .ref 100, .ref 215, .ref 223, .ref 224, .int (nI i), .int ((x_mo_removeAttack al cg rs s.1 (g.2.2.2.2.2.2 (i + 1)) (g.2.2.2.2.2.2 (i + 2))).2.1), .int ((x_mo_removeAttack al cg rs s.1 (g.2.2.2.2.2.2 (i + 1)) (g.2.2.2.2.2.2 (i + 2))).1), q_u] [.int ((x_mo_removeAttack al cg rs s.1 (g.2.2.2.2.2.2 (i + 1)) (g.2.2.2.2.2.2 (i + 2))).2.1)] h3
  refine q_iload dL_law_529 rfl ?_
  refine q_icmp_eq 536 dL_law_531 (by decide) (fun _ => ?_) (fun b => absurd rfl b)
  refine q_iload dL_law_536 rfl ?_
  have hz3 : h1.1 ≤ h3.1 := q3.1
  have hz4 : h0.1 ≤ h1.1 := qs.1
  have fin : q_W g mL_law d mc ms Q (kc + 4) (ks + 24) 553 [.ref 0, .ref 100, .ref 215, .ref 223, .ref 224, .int (nI i), .int ((x_mo_removeAttack al cg rs s.1 (g.2.2.2.2.2.2 (i + 1)) (g.2.2.2.2.2.2 (i + 2))).2.1), .int ((x_mo_removeAttack al cg rs s.1 (g.2.2.2.2.2.2 (i + 1)) (g.2.2.2.2.2.2 (i + 2))).1), q_u] [] h3 := by
    refine q_goto 2985 dL_law_553 (by decide) ?_
    refine q_forget 6 ?_
    refine q_forget 7 ?_
    change q_W _ _ _ _ _ _ _ _ 2985 [.ref 0, .ref 100, .ref 215, .ref 223, .ref 224, .int (nI i), q_u, q_u, q_u] [] h3
    exact q_widen (by omega) (by omega) (K h3 ⟨_, _, _, _, _, _, _, _, _, _, _, _, _, _, _, _, _, _, _, _, _, _, w1.keep (q3.wide (by omega) (by omega)), ⟨_, ⟨_, _, _, _, _, _, _, _, _, m3⟩⟩, ⟨_, (q3.2 _ (by omega) (by omega)).trans c223b⟩, ⟨_, (q3.2 _ (by omega) (by omega)).trans c224b⟩, J2⟩)
  refine q_if_ne 553 dL_law_538 (by decide) (fun _ => fin) (fun b => ?_)
  have eo9 : (q_oI ((x_am_removeAttack s nx kp rw (g.2.2.2.2.2.2 (i + 1)) (g.2.2.2.2.2.2 (i + 2))).1)) = .inl (some (.int ((x_mo_removeAttack al cg rs s.1 (g.2.2.2.2.2.2 (i + 1)) (g.2.2.2.2.2.2 (i + 2))).1))) := by
    rcases ag with ⟨et, eo⟩ | ⟨et, eo⟩
    · exact absurd (et.symm.trans b) (by decide)
    · exact eo
  have ev := hf2 _ eo9
  refine q_aload_n (by first | assumption | (rw [q_R0e]; omega)) dL_law_541 rfl ?_
  refine q_iconst (v := 0) dL_law_542 rfl ?_
  refine q_lald (f := f2) dL_law_543 ((q3.2 _ (by omega) (by omega)).trans c223b) (vp_in_nI (n := 0) (N := 1) (by decide) (by decide)) ?_
  change q_W _ _ _ _ _ _ _ _ _ _ [.long (f2 0)] _
  rw [ev]
  refine q_iload dL_law_544 rfl ?_
  refine q_i2l dL_law_546 rfl ?_
  refine q_lcmp dL_law_547 ?_
  rw [z_lcmp]
  exact q_if_eq 553 dL_law_548 (by decide) (fun _ => fin) (fun b => absurd rfl b)
set_option maxRecDepth 100000 in
set_option maxHeartbeats 4000000 in
theorem l_c_setWeight {g : q_G} {h : q_H} {d mc ms kc ks i t : Nat} {Q : q_O → q_H → Prop} (hP : z_P_setWeight) (hI : z_I t h) (ht : t < 512) (hi : i + 2 < g.2.2.2.2.2.1) (hN : g.2.2.2.2.2.1 < 2 ^ 31) (ho : q_isold g 0) (hd : 26 ≤ d) (hkc : kc + 66 ≤ mc) (hks : ks + 10588 ≤ ms) (K : ∀ h2, z_I (t + 1) h2 → q_W g mL_law d mc ms Q (kc + 66) (ks + 10588) 2985 [.ref 0, .ref 100, .ref 215, .ref 223, .ref 224, .int (nI i), q_u, q_u, q_u] [] h2) : q_W g mL_law d mc ms Q kc ks 556 [.ref 0, .ref 100, .ref 215, .ref 223, .ref 224, .int (nI i), q_u, q_u, q_u] [] h := by
  obtain ⟨hs, se, sf, s, s1, nx, kp, rw, ic, fi, lc, fl, al, cg, sv, ad, ln, lz, ip, ty, ea, fa, wc, ⟨th, wm⟩, ⟨f, c223⟩, ⟨fd, c224⟩, J⟩ := hI
  obtain ⟨s2, ca, cj, co, won, lost, pf, cv, sc, pc, pp, po, vb, oa, ob, w⟩ := wc
  obtain ⟨rs, ac, rj, ro, bf, he, er, cm, cn, m⟩ := wm
  obtain ⟨e0, hn, e3, hm⟩ := J.n0
  obtain ⟨ag, J2⟩ := hP t hs se sf s s1 nx kp rw ic fi lc fl al cg sv ad ln lz ip ty ea fa rs (g.2.2.2.2.2.2 (i + 1)) (g.2.2.2.2.2.2 (i + 2)) ht J
  refine q_aload_n (by first | assumption | (rw [q_R0e]; omega)) dL_law_556 rfl ?_
  refine q_aload_nO ho dL_law_557 rfl ?_
  refine q_iload dL_law_558 rfl ?_
  refine q_iconst (v := 1) dL_law_560 rfl ?_
  refine q_iaddN (a := i) (b := 1) dL_law_561 ?_
  refine q_taldIN (by decide) dL_law_562 (rfl : q_ar g 0 = _) (by omega) hN ?_
  change q_W _ _ _ _ _ _ _ _ _ _ [.int (g.2.2.2.2.2.2 (i + 1)), .ref 100] _
  refine q_aload_nO ho dL_law_563 rfl ?_
  refine q_iload dL_law_564 rfl ?_
  refine q_iconst (v := 2) dL_law_566 rfl ?_
  refine q_iaddN (a := i) (b := 2) dL_law_567 ?_
  refine q_taldIN (by decide) dL_law_568 (rfl : q_ar g 0 = _) (by omega) hN ?_
  change q_W _ _ _ _ _ _ _ _ _ _ [.int (g.2.2.2.2.2.2 (i + 2)), .int ((g.2.2.2.2.2.2 (i + 1))), .ref 100] _
  refine q_aload_n (by first | assumption | (rw [q_R0e]; omega)) dL_law_569 rfl ?_
  have ho9 : (∃ v, (q_oI ((x_am_setWeight s nx kp rw (g.2.2.2.2.2.2 (i + 1)) (g.2.2.2.2.2.2 (i + 2))).1)) = .inl (some (.int v))) ∨ (q_oI ((x_am_setWeight s nx kp rw (g.2.2.2.2.2.2 (i + 1)) (g.2.2.2.2.2.2 (i + 2))).1)) = .inr "java/util/NoSuchElementException" ∨ (q_oI ((x_am_setWeight s nx kp rw (g.2.2.2.2.2.2 (i + 1)) (g.2.2.2.2.2.2 (i + 2))).1)) = .inr "java/lang/IllegalArgumentException" := by
    rcases ag with ⟨et, eo⟩ | ⟨et, eo⟩ | ⟨et, eo⟩
    · exact Or.inr (Or.inl eo)
    · exact Or.inr (Or.inr (eo))
    · exact Or.inl ⟨_, eo⟩
  have hcd : z_cd [("java/util/NoSuchElementException", 1), ("java/lang/IllegalArgumentException", 2)] (q_oI ((x_am_setWeight s nx kp rw (g.2.2.2.2.2.2 (i + 1)) (g.2.2.2.2.2.2 (i + 2))).1)) = (x_mo_setWeight al cg rs s.1 (g.2.2.2.2.2.2 (i + 1)) (g.2.2.2.2.2.2 (i + 2))).2.1 := by
    rcases ag with ⟨et, eo⟩ | ⟨et, eo⟩ | ⟨et, eo⟩
    · rw [et, eo]; rfl
    · rw [et, eo]; rfl
    · rw [et, eo]; rfl
  have hB9 : ∀ h1, (z_C h1 hs se sf ((x_am_setWeight s nx kp rw (g.2.2.2.2.2.2 (i + 1)) (g.2.2.2.2.2.2 (i + 2))).2.1) s1 ((x_am_setWeight s nx kp rw (g.2.2.2.2.2.2 (i + 1)) (g.2.2.2.2.2.2 (i + 2))).2.2.1) ((x_am_setWeight s nx kp rw (g.2.2.2.2.2.2 (i + 1)) (g.2.2.2.2.2.2 (i + 2))).2.2.2.1) ((x_am_setWeight s nx kp rw (g.2.2.2.2.2.2 (i + 1)) (g.2.2.2.2.2.2 (i + 2))).2.2.2.2) ic fi lc fl ∧ q_zone h h1 100 115) → h1.2 223 = some (.inl (4, 1, .inr (.inl f))) := fun h1 hb => (hb.2.2 _ (by omega) (by omega)).trans c223
  refine q_invSH (mc' := 4) (ms' := 24) (d' := d - 1) (as := [.ref 100, .int ((g.2.2.2.2.2.2 (i + 1))), .int ((g.2.2.2.2.2.2 (i + 2))), .ref 223]) dL_law_570 kM_L_setWeight kL_L_179 kT_L_setWeight rfl rfl rfl (Nat.le_of_ble_eq_true rfl) (by omega) (by decide) (by omega) (by omega) (e_L_setWeight (d := d - 1) (dd := d - 2) w.1.c0 hB9 ho9 (c_setWeight (g := g) (h := h) (d := d - 2) w (g.2.2.2.2.2.2 (i + 1)) (g.2.2.2.2.2.2 (i + 2)) (by omega)) (by omega)) (q_kC (fun h1 hB => ?_)) q_xC
  obtain ⟨h0, ⟨wc1, q1⟩, e9⟩ := hB
  obtain ⟨f2, c223b, hf2⟩ := z_outL_c (o := q_oI ((x_am_setWeight s nx kp rw (g.2.2.2.2.2.2 (i + 1)) (g.2.2.2.2.2.2 (i + 2))).1)) (hB9 h0 ⟨wc1, q1⟩)
  have qs : q_same h0 h1 223 1 := e9 ▸ z_outL_same
  rw [← e9] at c223b
  clear e9
  have hz : 225 ≤ h.1 := w.2.2.2.2.2.2.2.2.2.s0
  have hz0 : h.1 ≤ h0.1 := q1.1
  have c224b : h1.2 224 = _ := (qs.2 _ (by omega) (by omega)).trans ((q1.2 _ (by omega) (by omega)).trans c224)
  have w1 := wc1.keep (qs.wide (by omega) (by omega))
  have m1 := m.keepI (h1 := h1) (Nat.le_trans q1.1 qs.1) (fun j b1 b2 => (qs.2 j (by omega) (by omega)).trans (q1.2 j (by omega) (by omega)))
  clear wc1 hB9 ho9 m
  change q_W _ _ _ _ _ _ _ _ 573 [.ref 0, .ref 100, .ref 215, .ref 223, .ref 224, .int (nI i), q_u, q_u, q_u] [.int (z_cd [("java/util/NoSuchElementException", 1), ("java/lang/IllegalArgumentException", 2)] (q_oI ((x_am_setWeight s nx kp rw (g.2.2.2.2.2.2 (i + 1)) (g.2.2.2.2.2.2 (i + 2))).1)))] h1
  rw [hcd]
  refine q_istore dL_law_573 (by decide) rfl ?_
  change q_W _ _ _ _ _ _ _ _ 575 [.ref 0, .ref 100, .ref 215, .ref 223, .ref 224, .int (nI i), .int ((x_mo_setWeight al cg rs s.1 (g.2.2.2.2.2.2 (i + 1)) (g.2.2.2.2.2.2 (i + 2))).2.1), q_u, q_u] [] h1
  refine q_aload_n (by first | assumption | (rw [q_R0e]; omega)) dL_law_575 rfl ?_
  refine q_aload_nO ho dL_law_576 rfl ?_
  refine q_iload dL_law_577 rfl ?_
  refine q_iconst (v := 1) dL_law_579 rfl ?_
  refine q_iaddN (a := i) (b := 1) dL_law_580 ?_
  refine q_taldIN (by decide) dL_law_581 (rfl : q_ar g 0 = _) (by omega) hN ?_
  change q_W _ _ _ _ _ _ _ _ _ _ [.int (g.2.2.2.2.2.2 (i + 1)), .ref 215] _
  refine q_aload_nO ho dL_law_582 rfl ?_
  refine q_iload dL_law_583 rfl ?_
  refine q_iconst (v := 2) dL_law_585 rfl ?_
  refine q_iaddN (a := i) (b := 2) dL_law_586 ?_
  refine q_taldIN (by decide) dL_law_587 (rfl : q_ar g 0 = _) (by omega) hN ?_
  change q_W _ _ _ _ _ _ _ _ _ _ [.int (g.2.2.2.2.2.2 (i + 2)), .int ((g.2.2.2.2.2.2 (i + 1))), .ref 215] _
  refine q_invV (mc' := 0) (ms' := 0) (d' := d - 1) (as := [.int ((g.2.2.2.2.2.2 (i + 1))), .int ((g.2.2.2.2.2.2 (i + 2)))]) dL_law_588 kM_X11_setWeight kL_L_181 kI_X11_setWeight kS_X11_setWeight rfl (kC_X11.1) m1.c0 rfl rfl (Nat.le_of_ble_eq_true rfl) (by omega) (by decide) (by omega) (by omega) (r_setWeight (g := g) (d := d - 1) m1 e0 hn e3 hm (g.2.2.2.2.2.2 (i + 1)) (g.2.2.2.2.2.2 (i + 2)) (by omega)) (q_kC (fun h3 hB3 => ?_)) q_xC
  obtain ⟨m3, q3⟩ := hB3
  obtain ⟨rs3, ac3, rj3, ro3, bf3, he3, er3, cm3, cn3, m3⟩ := m3
  change q_W _ _ _ _ _ _ _ _ 591 [.ref 0, .ref 100, .ref 215, .ref 223, .ref 224, .int (nI i), .int ((x_mo_setWeight al cg rs s.1 (g.2.2.2.2.2.2 (i + 1)) (g.2.2.2.2.2.2 (i + 2))).2.1), q_u, q_u] [.int ((x_mo_setWeight al cg rs s.1 (g.2.2.2.2.2.2 (i + 1)) (g.2.2.2.2.2.2 (i + 2))).1)] h3
  refine q_istore dL_law_591 (by decide) rfl ?_
  change q_W _ _ _ _ _ _ _ _ 593 [.ref 0, .ref 100, .ref 215, .ref 223, .ref 224, .int (nI i), .int ((x_mo_setWeight al cg rs s.1 (g.2.2.2.2.2.2 (i + 1)) (g.2.2.2.2.2.2 (i + 2))).2.1), .int ((x_mo_setWeight al cg rs s.1 (g.2.2.2.2.2.2 (i + 1)) (g.2.2.2.2.2.2 (i + 2))).1), q_u] [] h3
  refine q_aload_n (by first | assumption | (rw [q_R0e]; omega)) dL_law_593 rfl ?_
  refine q_invV (mc' := 0) (ms' := 0) (d' := d - 1) (as := []) dL_law_594 kM_X11_thrown kL_L_166 kI_X11_thrown kS_X11_thrown rfl (kC_X11.1) m3.c0 rfl rfl (Nat.le_of_ble_eq_true rfl) (by omega) (by decide) (by omega) (by omega) (e_mo_thrownR (d := d - 1) m3 (by omega)) (q_kR ?_) q_xR
  change q_W _ _ _ _ _ _ _ _ 597 [.ref 0, .ref 100, .ref 215, .ref 223, .ref 224, .int (nI i), .int ((x_mo_setWeight al cg rs s.1 (g.2.2.2.2.2.2 (i + 1)) (g.2.2.2.2.2.2 (i + 2))).2.1), .int ((x_mo_setWeight al cg rs s.1 (g.2.2.2.2.2.2 (i + 1)) (g.2.2.2.2.2.2 (i + 2))).1), q_u] [.int ((x_mo_setWeight al cg rs s.1 (g.2.2.2.2.2.2 (i + 1)) (g.2.2.2.2.2.2 (i + 2))).2.1)] h3
  refine q_iload dL_law_597 rfl ?_
  refine q_icmp_eq 604 dL_law_599 (by decide) (fun _ => ?_) (fun b => absurd rfl b)
  refine q_iload dL_law_604 rfl ?_
  have hz3 : h1.1 ≤ h3.1 := q3.1
  have hz4 : h0.1 ≤ h1.1 := qs.1
  have fin : q_W g mL_law d mc ms Q (kc + 4) (ks + 24) 621 [.ref 0, .ref 100, .ref 215, .ref 223, .ref 224, .int (nI i), .int ((x_mo_setWeight al cg rs s.1 (g.2.2.2.2.2.2 (i + 1)) (g.2.2.2.2.2.2 (i + 2))).2.1), .int ((x_mo_setWeight al cg rs s.1 (g.2.2.2.2.2.2 (i + 1)) (g.2.2.2.2.2.2 (i + 2))).1), q_u] [] h3 := by
    refine q_goto 2985 dL_law_621 (by decide) ?_
    refine q_forget 6 ?_
    refine q_forget 7 ?_
    change q_W _ _ _ _ _ _ _ _ 2985 [.ref 0, .ref 100, .ref 215, .ref 223, .ref 224, .int (nI i), q_u, q_u, q_u] [] h3
    exact q_widen (by omega) (by omega) (K h3 ⟨_, _, _, _, _, _, _, _, _, _, _, _, _, _, _, _, _, _, _, _, _, _, w1.keep (q3.wide (by omega) (by omega)), ⟨_, ⟨_, _, _, _, _, _, _, _, _, m3⟩⟩, ⟨_, (q3.2 _ (by omega) (by omega)).trans c223b⟩, ⟨_, (q3.2 _ (by omega) (by omega)).trans c224b⟩, J2⟩)
  refine q_if_ne 621 dL_law_606 (by decide) (fun _ => fin) (fun b => ?_)
  have eo9 : (q_oI ((x_am_setWeight s nx kp rw (g.2.2.2.2.2.2 (i + 1)) (g.2.2.2.2.2.2 (i + 2))).1)) = .inl (some (.int ((x_mo_setWeight al cg rs s.1 (g.2.2.2.2.2.2 (i + 1)) (g.2.2.2.2.2.2 (i + 2))).1))) := by
    rcases ag with ⟨et, eo⟩ | ⟨et, eo⟩ | ⟨et, eo⟩
    · exact absurd (et.symm.trans b) (by decide)
    · exact absurd (et.symm.trans b) (by decide)
    · exact eo
  have ev := hf2 _ eo9
  refine q_aload_n (by first | assumption | (rw [q_R0e]; omega)) dL_law_609 rfl ?_
  refine q_iconst (v := 0) dL_law_610 rfl ?_
  refine q_lald (f := f2) dL_law_611 ((q3.2 _ (by omega) (by omega)).trans c223b) (vp_in_nI (n := 0) (N := 1) (by decide) (by decide)) ?_
  change q_W _ _ _ _ _ _ _ _ _ _ [.long (f2 0)] _
  rw [ev]
  refine q_iload dL_law_612 rfl ?_
  refine q_i2l dL_law_614 rfl ?_
  refine q_lcmp dL_law_615 ?_
  rw [z_lcmp]
  exact q_if_eq 621 dL_law_616 (by decide) (fun _ => fin) (fun b => absurd rfl b)
set_option maxRecDepth 100000 in
set_option maxHeartbeats 4000000 in
theorem l_c_renew {g : q_G} {h : q_H} {d mc ms kc ks i t : Nat} {Q : q_O → q_H → Prop} (hP : z_P_renew) (hI : z_I t h) (ht : t < 512) (hi : i + 2 < g.2.2.2.2.2.1) (hN : g.2.2.2.2.2.1 < 2 ^ 31) (ho : q_isold g 0) (hd : 26 ≤ d) (hkc : kc + 66 ≤ mc) (hks : ks + 10588 ≤ ms) (K : ∀ h2, z_I (t + 1) h2 → q_W g mL_law d mc ms Q (kc + 66) (ks + 10588) 2985 [.ref 0, .ref 100, .ref 215, .ref 223, .ref 224, .int (nI i), q_u, q_u, q_u] [] h2) : q_W g mL_law d mc ms Q kc ks 624 [.ref 0, .ref 100, .ref 215, .ref 223, .ref 224, .int (nI i), q_u, q_u, q_u] [] h := by
  obtain ⟨hs, se, sf, s, s1, nx, kp, rw, ic, fi, lc, fl, al, cg, sv, ad, ln, lz, ip, ty, ea, fa, wc, ⟨th, wm⟩, ⟨f, c223⟩, ⟨fd, c224⟩, J⟩ := hI
  obtain ⟨s2, ca, cj, co, won, lost, pf, cv, sc, pc, pp, po, vb, oa, ob, w⟩ := wc
  obtain ⟨rs, ac, rj, ro, bf, he, er, cm, cn, m⟩ := wm
  obtain ⟨e0, hn, e3, hm⟩ := J.n0
  obtain ⟨ag, J2⟩ := hP t hs se sf s s1 nx kp rw ic fi lc fl al cg sv ad ln lz ip ty ea fa rs (g.2.2.2.2.2.2 (i + 1)) ht J
  refine q_aload_n (by first | assumption | (rw [q_R0e]; omega)) dL_law_624 rfl ?_
  refine q_aload_nO ho dL_law_625 rfl ?_
  refine q_iload dL_law_626 rfl ?_
  refine q_iconst (v := 1) dL_law_628 rfl ?_
  refine q_iaddN (a := i) (b := 1) dL_law_629 ?_
  refine q_taldIN (by decide) dL_law_630 (rfl : q_ar g 0 = _) (by omega) hN ?_
  change q_W _ _ _ _ _ _ _ _ _ _ [.int (g.2.2.2.2.2.2 (i + 1)), .ref 100] _
  refine q_aload_n (by first | assumption | (rw [q_R0e]; omega)) dL_law_631 rfl ?_
  have ho9 : (∃ v, (q_oI ((x_am_renew s nx kp rw (g.2.2.2.2.2.2 (i + 1))).1)) = .inl (some (.int v))) ∨ (q_oI ((x_am_renew s nx kp rw (g.2.2.2.2.2.2 (i + 1))).1)) = .inr "java/util/NoSuchElementException" := by
    rcases ag with ⟨et, eo⟩ | ⟨et, eo⟩
    · exact Or.inr (eo)
    · exact Or.inl ⟨_, eo⟩
  have hcd : z_cd [("java/util/NoSuchElementException", 1)] (q_oI ((x_am_renew s nx kp rw (g.2.2.2.2.2.2 (i + 1))).1)) = (x_mo_renew al cg rs s.1 (g.2.2.2.2.2.2 (i + 1))).2.1 := by
    rcases ag with ⟨et, eo⟩ | ⟨et, eo⟩
    · rw [et, eo]; rfl
    · rw [et, eo]; rfl
  have hB9 : ∀ h1, (z_C h1 hs se sf ((x_am_renew s nx kp rw (g.2.2.2.2.2.2 (i + 1))).2.1) s1 ((x_am_renew s nx kp rw (g.2.2.2.2.2.2 (i + 1))).2.2.1) ((x_am_renew s nx kp rw (g.2.2.2.2.2.2 (i + 1))).2.2.2.1) ((x_am_renew s nx kp rw (g.2.2.2.2.2.2 (i + 1))).2.2.2.2) ic fi lc fl ∧ q_zone h h1 100 115) → h1.2 223 = some (.inl (4, 1, .inr (.inl f))) := fun h1 hb => (hb.2.2 _ (by omega) (by omega)).trans c223
  refine q_invSH (mc' := 4) (ms' := 24) (d' := d - 1) (as := [.ref 100, .int ((g.2.2.2.2.2.2 (i + 1))), .ref 223]) dL_law_632 kM_L_renew kL_L_182 kT_L_renew rfl rfl rfl (Nat.le_of_ble_eq_true rfl) (by omega) (by decide) (by omega) (by omega) (e_L_renew (d := d - 1) (dd := d - 2) w.1.c0 hB9 ho9 (c_renew (g := g) (h := h) (d := d - 2) w (g.2.2.2.2.2.2 (i + 1)) (by omega)) (by omega)) (q_kC (fun h1 hB => ?_)) q_xC
  obtain ⟨h0, ⟨wc1, q1⟩, e9⟩ := hB
  obtain ⟨f2, c223b, hf2⟩ := z_outL_c (o := q_oI ((x_am_renew s nx kp rw (g.2.2.2.2.2.2 (i + 1))).1)) (hB9 h0 ⟨wc1, q1⟩)
  have qs : q_same h0 h1 223 1 := e9 ▸ z_outL_same
  rw [← e9] at c223b
  clear e9
  have hz : 225 ≤ h.1 := w.2.2.2.2.2.2.2.2.2.s0
  have hz0 : h.1 ≤ h0.1 := q1.1
  have c224b : h1.2 224 = _ := (qs.2 _ (by omega) (by omega)).trans ((q1.2 _ (by omega) (by omega)).trans c224)
  have w1 := wc1.keep (qs.wide (by omega) (by omega))
  have m1 := m.keepI (h1 := h1) (Nat.le_trans q1.1 qs.1) (fun j b1 b2 => (qs.2 j (by omega) (by omega)).trans (q1.2 j (by omega) (by omega)))
  clear wc1 hB9 ho9 m
  change q_W _ _ _ _ _ _ _ _ 635 [.ref 0, .ref 100, .ref 215, .ref 223, .ref 224, .int (nI i), q_u, q_u, q_u] [.int (z_cd [("java/util/NoSuchElementException", 1)] (q_oI ((x_am_renew s nx kp rw (g.2.2.2.2.2.2 (i + 1))).1)))] h1
  rw [hcd]
  refine q_istore dL_law_635 (by decide) rfl ?_
  change q_W _ _ _ _ _ _ _ _ 637 [.ref 0, .ref 100, .ref 215, .ref 223, .ref 224, .int (nI i), .int ((x_mo_renew al cg rs s.1 (g.2.2.2.2.2.2 (i + 1))).2.1), q_u, q_u] [] h1
  refine q_aload_n (by first | assumption | (rw [q_R0e]; omega)) dL_law_637 rfl ?_
  refine q_aload_nO ho dL_law_638 rfl ?_
  refine q_iload dL_law_639 rfl ?_
  refine q_iconst (v := 1) dL_law_641 rfl ?_
  refine q_iaddN (a := i) (b := 1) dL_law_642 ?_
  refine q_taldIN (by decide) dL_law_643 (rfl : q_ar g 0 = _) (by omega) hN ?_
  change q_W _ _ _ _ _ _ _ _ _ _ [.int (g.2.2.2.2.2.2 (i + 1)), .ref 215] _
  refine q_invV (mc' := 0) (ms' := 0) (d' := d - 1) (as := [.int ((g.2.2.2.2.2.2 (i + 1)))]) dL_law_644 kM_X11_renew kL_L_184 kI_X11_renew kS_X11_renew rfl (kC_X11.1) m1.c0 rfl rfl (Nat.le_of_ble_eq_true rfl) (by omega) (by decide) (by omega) (by omega) (r_renew (g := g) (d := d - 1) m1 e0 hn e3 hm (g.2.2.2.2.2.2 (i + 1)) (by omega)) (q_kC (fun h3 hB3 => ?_)) q_xC
  obtain ⟨m3, q3⟩ := hB3
  obtain ⟨rs3, ac3, rj3, ro3, bf3, he3, er3, cm3, cn3, m3⟩ := m3
  change q_W _ _ _ _ _ _ _ _ 647 [.ref 0, .ref 100, .ref 215, .ref 223, .ref 224, .int (nI i), .int ((x_mo_renew al cg rs s.1 (g.2.2.2.2.2.2 (i + 1))).2.1), q_u, q_u] [.int ((x_mo_renew al cg rs s.1 (g.2.2.2.2.2.2 (i + 1))).1)] h3
  refine q_istore dL_law_647 (by decide) rfl ?_
  change q_W _ _ _ _ _ _ _ _ 649 [.ref 0, .ref 100, .ref 215, .ref 223, .ref 224, .int (nI i), .int ((x_mo_renew al cg rs s.1 (g.2.2.2.2.2.2 (i + 1))).2.1), .int ((x_mo_renew al cg rs s.1 (g.2.2.2.2.2.2 (i + 1))).1), q_u] [] h3
  refine q_aload_n (by first | assumption | (rw [q_R0e]; omega)) dL_law_649 rfl ?_
  refine q_invV (mc' := 0) (ms' := 0) (d' := d - 1) (as := []) dL_law_650 kM_X11_thrown kL_L_166 kI_X11_thrown kS_X11_thrown rfl (kC_X11.1) m3.c0 rfl rfl (Nat.le_of_ble_eq_true rfl) (by omega) (by decide) (by omega) (by omega) (e_mo_thrownR (d := d - 1) m3 (by omega)) (q_kR ?_) q_xR
  change q_W _ _ _ _ _ _ _ _ 653 [.ref 0, .ref 100, .ref 215, .ref 223, .ref 224, .int (nI i), .int ((x_mo_renew al cg rs s.1 (g.2.2.2.2.2.2 (i + 1))).2.1), .int ((x_mo_renew al cg rs s.1 (g.2.2.2.2.2.2 (i + 1))).1), q_u] [.int ((x_mo_renew al cg rs s.1 (g.2.2.2.2.2.2 (i + 1))).2.1)] h3
  refine q_iload dL_law_653 rfl ?_
  refine q_icmp_eq 660 dL_law_655 (by decide) (fun _ => ?_) (fun b => absurd rfl b)
  refine q_iload dL_law_660 rfl ?_
  have hz3 : h1.1 ≤ h3.1 := q3.1
  have hz4 : h0.1 ≤ h1.1 := qs.1
  have fin : q_W g mL_law d mc ms Q (kc + 4) (ks + 24) 677 [.ref 0, .ref 100, .ref 215, .ref 223, .ref 224, .int (nI i), .int ((x_mo_renew al cg rs s.1 (g.2.2.2.2.2.2 (i + 1))).2.1), .int ((x_mo_renew al cg rs s.1 (g.2.2.2.2.2.2 (i + 1))).1), q_u] [] h3 := by
    refine q_goto 2985 dL_law_677 (by decide) ?_
    refine q_forget 6 ?_
    refine q_forget 7 ?_
    change q_W _ _ _ _ _ _ _ _ 2985 [.ref 0, .ref 100, .ref 215, .ref 223, .ref 224, .int (nI i), q_u, q_u, q_u] [] h3
    exact q_widen (by omega) (by omega) (K h3 ⟨_, _, _, _, _, _, _, _, _, _, _, _, _, _, _, _, _, _, _, _, _, _, w1.keep (q3.wide (by omega) (by omega)), ⟨_, ⟨_, _, _, _, _, _, _, _, _, m3⟩⟩, ⟨_, (q3.2 _ (by omega) (by omega)).trans c223b⟩, ⟨_, (q3.2 _ (by omega) (by omega)).trans c224b⟩, J2⟩)
  refine q_if_ne 677 dL_law_662 (by decide) (fun _ => fin) (fun b => ?_)
  have eo9 : (q_oI ((x_am_renew s nx kp rw (g.2.2.2.2.2.2 (i + 1))).1)) = .inl (some (.int ((x_mo_renew al cg rs s.1 (g.2.2.2.2.2.2 (i + 1))).1))) := by
    rcases ag with ⟨et, eo⟩ | ⟨et, eo⟩
    · exact absurd (et.symm.trans b) (by decide)
    · exact eo
  have ev := hf2 _ eo9
  refine q_aload_n (by first | assumption | (rw [q_R0e]; omega)) dL_law_665 rfl ?_
  refine q_iconst (v := 0) dL_law_666 rfl ?_
  refine q_lald (f := f2) dL_law_667 ((q3.2 _ (by omega) (by omega)).trans c223b) (vp_in_nI (n := 0) (N := 1) (by decide) (by decide)) ?_
  change q_W _ _ _ _ _ _ _ _ _ _ [.long (f2 0)] _
  rw [ev]
  refine q_iload dL_law_668 rfl ?_
  refine q_i2l dL_law_670 rfl ?_
  refine q_lcmp dL_law_671 ?_
  rw [z_lcmp]
  exact q_if_eq 677 dL_law_672 (by decide) (fun _ => fin) (fun b => absurd rfl b)
set_option maxRecDepth 100000 in
set_option maxHeartbeats 4000000 in
theorem l_c_startDialogue {g : q_G} {h : q_H} {d mc ms kc ks i t : Nat} {Q : q_O → q_H → Prop} (hP : z_P_startDialogue) (hI : z_I t h) (ht : t < 512) (hi : i + 2 < g.2.2.2.2.2.1) (hN : g.2.2.2.2.2.1 < 2 ^ 31) (ho : q_isold g 0) (hd : 26 ≤ d) (hkc : kc + 66 ≤ mc) (hks : ks + 10588 ≤ ms) (K : ∀ h2, z_I (t + 1) h2 → q_W g mL_law d mc ms Q (kc + 66) (ks + 10588) 2985 [.ref 0, .ref 100, .ref 215, .ref 223, .ref 224, .int (nI i), q_u, q_u, q_u] [] h2) : q_W g mL_law d mc ms Q kc ks 680 [.ref 0, .ref 100, .ref 215, .ref 223, .ref 224, .int (nI i), q_u, q_u, q_u] [] h := by
  obtain ⟨hs, se, sf, s, s1, nx, kp, rw, ic, fi, lc, fl, al, cg, sv, ad, ln, lz, ip, ty, ea, fa, wc, ⟨th, wm⟩, ⟨f, c223⟩, ⟨fd, c224⟩, J⟩ := hI
  obtain ⟨s2, ca, cj, co, won, lost, pf, cv, sc, pc, pp, po, vb, oa, ob, w⟩ := wc
  obtain ⟨rs, ac, rj, ro, bf, he, er, cm, cn, m⟩ := wm
  obtain ⟨e0, hn, e3, hm⟩ := J.n0
  obtain ⟨ag, J2⟩ := hP t hs se sf s s1 nx kp rw ic fi lc fl al cg sv ad ln lz ip ty ea fa rs (g.2.2.2.2.2.2 (i + 1)) ht J
  refine q_aload_n (by first | assumption | (rw [q_R0e]; omega)) dL_law_680 rfl ?_
  refine q_aload_nO ho dL_law_681 rfl ?_
  refine q_iload dL_law_682 rfl ?_
  refine q_iconst (v := 1) dL_law_684 rfl ?_
  refine q_iaddN (a := i) (b := 1) dL_law_685 ?_
  refine q_taldIN (by decide) dL_law_686 (rfl : q_ar g 0 = _) (by omega) hN ?_
  change q_W _ _ _ _ _ _ _ _ _ _ [.int (g.2.2.2.2.2.2 (i + 1)), .ref 100] _
  refine q_aload_n (by first | assumption | (rw [q_R0e]; omega)) dL_law_687 rfl ?_
  have ho9 : (∃ v, (q_oI ((x_am_startDialogue s nx kp rw (g.2.2.2.2.2.2 (i + 1))).1)) = .inl (some (.int v))) ∨ (q_oI ((x_am_startDialogue s nx kp rw (g.2.2.2.2.2.2 (i + 1))).1)) = .inr "java/util/NoSuchElementException" ∨ (q_oI ((x_am_startDialogue s nx kp rw (g.2.2.2.2.2.2 (i + 1))).1)) = .inr "java/lang/IllegalStateException" := by
    rcases ag with ⟨et, eo⟩ | ⟨et, eo⟩ | ⟨et, eo⟩
    · exact Or.inr (Or.inl eo)
    · exact Or.inr (Or.inr (eo))
    · exact Or.inl ⟨_, eo⟩
  have hcd : z_cd [("java/util/NoSuchElementException", 1), ("java/lang/IllegalStateException", 2)] (q_oI ((x_am_startDialogue s nx kp rw (g.2.2.2.2.2.2 (i + 1))).1)) = (x_mo_startDialogue al cg rs s.1 s.2.2.2.2.2.2.2.2.1 (g.2.2.2.2.2.2 (i + 1))).2.1 := by
    rcases ag with ⟨et, eo⟩ | ⟨et, eo⟩ | ⟨et, eo⟩
    · rw [et, eo]; rfl
    · rw [et, eo]; rfl
    · rw [et, eo]; rfl
  have hB9 : ∀ h1, (z_C h1 hs se sf ((x_am_startDialogue s nx kp rw (g.2.2.2.2.2.2 (i + 1))).2.1) s1 ((x_am_startDialogue s nx kp rw (g.2.2.2.2.2.2 (i + 1))).2.2.1) ((x_am_startDialogue s nx kp rw (g.2.2.2.2.2.2 (i + 1))).2.2.2.1) ((x_am_startDialogue s nx kp rw (g.2.2.2.2.2.2 (i + 1))).2.2.2.2) ic fi lc fl ∧ q_zone h h1 100 115) → h1.2 223 = some (.inl (4, 1, .inr (.inl f))) := fun h1 hb => (hb.2.2 _ (by omega) (by omega)).trans c223
  refine q_invSH (mc' := 4) (ms' := 24) (d' := d - 1) (as := [.ref 100, .int ((g.2.2.2.2.2.2 (i + 1))), .ref 223]) dL_law_688 kM_L_startDialogue kL_L_185 kT_L_startDialogue rfl rfl rfl (Nat.le_of_ble_eq_true rfl) (by omega) (by decide) (by omega) (by omega) (e_L_startDialogue (d := d - 1) (dd := d - 2) w.1.c0 hB9 ho9 (c_startDialogue (g := g) (h := h) (d := d - 2) w (g.2.2.2.2.2.2 (i + 1)) (by omega)) (by omega)) (q_kC (fun h1 hB => ?_)) q_xC
  obtain ⟨h0, ⟨wc1, q1⟩, e9⟩ := hB
  obtain ⟨f2, c223b, hf2⟩ := z_outL_c (o := q_oI ((x_am_startDialogue s nx kp rw (g.2.2.2.2.2.2 (i + 1))).1)) (hB9 h0 ⟨wc1, q1⟩)
  have qs : q_same h0 h1 223 1 := e9 ▸ z_outL_same
  rw [← e9] at c223b
  clear e9
  have hz : 225 ≤ h.1 := w.2.2.2.2.2.2.2.2.2.s0
  have hz0 : h.1 ≤ h0.1 := q1.1
  have c224b : h1.2 224 = _ := (qs.2 _ (by omega) (by omega)).trans ((q1.2 _ (by omega) (by omega)).trans c224)
  have w1 := wc1.keep (qs.wide (by omega) (by omega))
  have m1 := m.keepI (h1 := h1) (Nat.le_trans q1.1 qs.1) (fun j b1 b2 => (qs.2 j (by omega) (by omega)).trans (q1.2 j (by omega) (by omega)))
  clear wc1 hB9 ho9 m
  change q_W _ _ _ _ _ _ _ _ 691 [.ref 0, .ref 100, .ref 215, .ref 223, .ref 224, .int (nI i), q_u, q_u, q_u] [.int (z_cd [("java/util/NoSuchElementException", 1), ("java/lang/IllegalStateException", 2)] (q_oI ((x_am_startDialogue s nx kp rw (g.2.2.2.2.2.2 (i + 1))).1)))] h1
  rw [hcd]
  refine q_istore dL_law_691 (by decide) rfl ?_
  change q_W _ _ _ _ _ _ _ _ 693 [.ref 0, .ref 100, .ref 215, .ref 223, .ref 224, .int (nI i), .int ((x_mo_startDialogue al cg rs s.1 s.2.2.2.2.2.2.2.2.1 (g.2.2.2.2.2.2 (i + 1))).2.1), q_u, q_u] [] h1
  refine q_aload_n (by first | assumption | (rw [q_R0e]; omega)) dL_law_693 rfl ?_
  refine q_aload_nO ho dL_law_694 rfl ?_
  refine q_iload dL_law_695 rfl ?_
  refine q_iconst (v := 1) dL_law_697 rfl ?_
  refine q_iaddN (a := i) (b := 1) dL_law_698 ?_
  refine q_taldIN (by decide) dL_law_699 (rfl : q_ar g 0 = _) (by omega) hN ?_
  change q_W _ _ _ _ _ _ _ _ _ _ [.int (g.2.2.2.2.2.2 (i + 1)), .ref 215] _
  refine q_invV (mc' := 0) (ms' := 0) (d' := d - 1) (as := [.int ((g.2.2.2.2.2.2 (i + 1)))]) dL_law_700 kM_X11_startDialogue kL_L_187 kI_X11_startDialogue kS_X11_startDialogue rfl (kC_X11.1) m1.c0 rfl rfl (Nat.le_of_ble_eq_true rfl) (by omega) (by decide) (by omega) (by omega) (r_startDialogue (g := g) (d := d - 1) m1 e0 hn e3 hm (g.2.2.2.2.2.2 (i + 1)) (by omega)) (q_kC (fun h3 hB3 => ?_)) q_xC
  obtain ⟨m3, q3⟩ := hB3
  obtain ⟨rs3, ac3, rj3, ro3, bf3, he3, er3, cm3, cn3, m3⟩ := m3
  change q_W _ _ _ _ _ _ _ _ 703 [.ref 0, .ref 100, .ref 215, .ref 223, .ref 224, .int (nI i), .int ((x_mo_startDialogue al cg rs s.1 s.2.2.2.2.2.2.2.2.1 (g.2.2.2.2.2.2 (i + 1))).2.1), q_u, q_u] [.int ((x_mo_startDialogue al cg rs s.1 s.2.2.2.2.2.2.2.2.1 (g.2.2.2.2.2.2 (i + 1))).1)] h3
  refine q_istore dL_law_703 (by decide) rfl ?_
  change q_W _ _ _ _ _ _ _ _ 705 [.ref 0, .ref 100, .ref 215, .ref 223, .ref 224, .int (nI i), .int ((x_mo_startDialogue al cg rs s.1 s.2.2.2.2.2.2.2.2.1 (g.2.2.2.2.2.2 (i + 1))).2.1), .int ((x_mo_startDialogue al cg rs s.1 s.2.2.2.2.2.2.2.2.1 (g.2.2.2.2.2.2 (i + 1))).1), q_u] [] h3
  refine q_aload_n (by first | assumption | (rw [q_R0e]; omega)) dL_law_705 rfl ?_
  refine q_invV (mc' := 0) (ms' := 0) (d' := d - 1) (as := []) dL_law_706 kM_X11_thrown kL_L_166 kI_X11_thrown kS_X11_thrown rfl (kC_X11.1) m3.c0 rfl rfl (Nat.le_of_ble_eq_true rfl) (by omega) (by decide) (by omega) (by omega) (e_mo_thrownR (d := d - 1) m3 (by omega)) (q_kR ?_) q_xR
  change q_W _ _ _ _ _ _ _ _ 709 [.ref 0, .ref 100, .ref 215, .ref 223, .ref 224, .int (nI i), .int ((x_mo_startDialogue al cg rs s.1 s.2.2.2.2.2.2.2.2.1 (g.2.2.2.2.2.2 (i + 1))).2.1), .int ((x_mo_startDialogue al cg rs s.1 s.2.2.2.2.2.2.2.2.1 (g.2.2.2.2.2.2 (i + 1))).1), q_u] [.int ((x_mo_startDialogue al cg rs s.1 s.2.2.2.2.2.2.2.2.1 (g.2.2.2.2.2.2 (i + 1))).2.1)] h3
  refine q_iload dL_law_709 rfl ?_
  refine q_icmp_eq 716 dL_law_711 (by decide) (fun _ => ?_) (fun b => absurd rfl b)
  refine q_iload dL_law_716 rfl ?_
  have hz3 : h1.1 ≤ h3.1 := q3.1
  have hz4 : h0.1 ≤ h1.1 := qs.1
  have fin : q_W g mL_law d mc ms Q (kc + 4) (ks + 24) 733 [.ref 0, .ref 100, .ref 215, .ref 223, .ref 224, .int (nI i), .int ((x_mo_startDialogue al cg rs s.1 s.2.2.2.2.2.2.2.2.1 (g.2.2.2.2.2.2 (i + 1))).2.1), .int ((x_mo_startDialogue al cg rs s.1 s.2.2.2.2.2.2.2.2.1 (g.2.2.2.2.2.2 (i + 1))).1), q_u] [] h3 := by
    refine q_goto 2985 dL_law_733 (by decide) ?_
    refine q_forget 6 ?_
    refine q_forget 7 ?_
    change q_W _ _ _ _ _ _ _ _ 2985 [.ref 0, .ref 100, .ref 215, .ref 223, .ref 224, .int (nI i), q_u, q_u, q_u] [] h3
    exact q_widen (by omega) (by omega) (K h3 ⟨_, _, _, _, _, _, _, _, _, _, _, _, _, _, _, _, _, _, _, _, _, _, w1.keep (q3.wide (by omega) (by omega)), ⟨_, ⟨_, _, _, _, _, _, _, _, _, m3⟩⟩, ⟨_, (q3.2 _ (by omega) (by omega)).trans c223b⟩, ⟨_, (q3.2 _ (by omega) (by omega)).trans c224b⟩, J2⟩)
  refine q_if_ne 733 dL_law_718 (by decide) (fun _ => fin) (fun b => ?_)
  have eo9 : (q_oI ((x_am_startDialogue s nx kp rw (g.2.2.2.2.2.2 (i + 1))).1)) = .inl (some (.int ((x_mo_startDialogue al cg rs s.1 s.2.2.2.2.2.2.2.2.1 (g.2.2.2.2.2.2 (i + 1))).1))) := by
    rcases ag with ⟨et, eo⟩ | ⟨et, eo⟩ | ⟨et, eo⟩
    · exact absurd (et.symm.trans b) (by decide)
    · exact absurd (et.symm.trans b) (by decide)
    · exact eo
  have ev := hf2 _ eo9
  refine q_aload_n (by first | assumption | (rw [q_R0e]; omega)) dL_law_721 rfl ?_
  refine q_iconst (v := 0) dL_law_722 rfl ?_
  refine q_lald (f := f2) dL_law_723 ((q3.2 _ (by omega) (by omega)).trans c223b) (vp_in_nI (n := 0) (N := 1) (by decide) (by decide)) ?_
  change q_W _ _ _ _ _ _ _ _ _ _ [.long (f2 0)] _
  rw [ev]
  refine q_iload dL_law_724 rfl ?_
  refine q_i2l dL_law_726 rfl ?_
  refine q_lcmp dL_law_727 ?_
  rw [z_lcmp]
  exact q_if_eq 733 dL_law_728 (by decide) (fun _ => fin) (fun b => absurd rfl b)
set_option maxRecDepth 100000 in
set_option maxHeartbeats 4000000 in
theorem l_c_move {g : q_G} {h : q_H} {d mc ms kc ks i t : Nat} {Q : q_O → q_H → Prop} (hP : z_P_move) (hI : z_I t h) (ht : t < 512) (hi : i + 2 < g.2.2.2.2.2.1) (hN : g.2.2.2.2.2.1 < 2 ^ 31) (ho : q_isold g 0) (hd : 26 ≤ d) (hkc : kc + 66 ≤ mc) (hks : ks + 10588 ≤ ms) (K : ∀ h2, z_I (t + 1) h2 → q_W g mL_law d mc ms Q (kc + 66) (ks + 10588) 2985 [.ref 0, .ref 100, .ref 215, .ref 223, .ref 224, .int (nI i), q_u, q_u, q_u] [] h2) : q_W g mL_law d mc ms Q kc ks 736 [.ref 0, .ref 100, .ref 215, .ref 223, .ref 224, .int (nI i), q_u, q_u, q_u] [] h := by
  obtain ⟨hs, se, sf, s, s1, nx, kp, rw, ic, fi, lc, fl, al, cg, sv, ad, ln, lz, ip, ty, ea, fa, wc, ⟨th, wm⟩, ⟨f, c223⟩, ⟨fd, c224⟩, J⟩ := hI
  obtain ⟨s2, ca, cj, co, won, lost, pf, cv, sc, pc, pp, po, vb, oa, ob, w⟩ := wc
  obtain ⟨rs, ac, rj, ro, bf, he, er, cm, cn, m⟩ := wm
  obtain ⟨e0, hn, e3, hm⟩ := J.n0
  obtain ⟨p0, ag, J2⟩ := hP t hs se sf s s1 nx kp rw ic fi lc fl al cg sv ad ln lz ip ty ea fa rs (g.2.2.2.2.2.2 (i + 1)) ht J
  refine q_aload_n (by first | assumption | (rw [q_R0e]; omega)) dL_law_736 rfl ?_
  refine q_aload_nO ho dL_law_737 rfl ?_
  refine q_iload dL_law_738 rfl ?_
  refine q_iconst (v := 1) dL_law_740 rfl ?_
  refine q_iaddN (a := i) (b := 1) dL_law_741 ?_
  refine q_taldIN (by decide) dL_law_742 (rfl : q_ar g 0 = _) (by omega) hN ?_
  change q_W _ _ _ _ _ _ _ _ _ _ [.int (g.2.2.2.2.2.2 (i + 1)), .ref 100] _
  refine q_aload_n (by first | assumption | (rw [q_R0e]; omega)) dL_law_743 rfl ?_
  have ho9 : (∃ v, (q_oI ((x_am_move s nx kp rw (g.2.2.2.2.2.2 (i + 1))).1)) = .inl (some (.int v))) ∨ (q_oI ((x_am_move s nx kp rw (g.2.2.2.2.2.2 (i + 1))).1)) = .inr "java/util/NoSuchElementException" ∨ (q_oI ((x_am_move s nx kp rw (g.2.2.2.2.2.2 (i + 1))).1)) = .inr "java/lang/IllegalArgumentException" ∨ (q_oI ((x_am_move s nx kp rw (g.2.2.2.2.2.2 (i + 1))).1)) = .inr "java/lang/IllegalStateException" := by
    rcases ag with ⟨et, eo⟩ | ⟨et, eo⟩ | ⟨et, eo⟩ | ⟨et, eo⟩
    · exact Or.inr (Or.inl eo)
    · exact Or.inr (Or.inr (Or.inl eo))
    · exact Or.inr (Or.inr (Or.inr (eo)))
    · exact Or.inl ⟨_, eo⟩
  have hcd : z_cd [("java/util/NoSuchElementException", 1), ("java/lang/IllegalArgumentException", 2), ("java/lang/IllegalStateException", 3)] (q_oI ((x_am_move s nx kp rw (g.2.2.2.2.2.2 (i + 1))).1)) = (x_mo_move al cg rs s.1 s.2.2.2.2.2.2.2.2.1 (g.2.2.2.2.2.2 (i + 1))).2.1 := by
    rcases ag with ⟨et, eo⟩ | ⟨et, eo⟩ | ⟨et, eo⟩ | ⟨et, eo⟩
    · rw [et, eo]; rfl
    · rw [et, eo]; rfl
    · rw [et, eo]; rfl
    · rw [et, eo]; rfl
  have hB9 : ∀ h1, (z_C h1 hs se sf ((x_am_move s nx kp rw (g.2.2.2.2.2.2 (i + 1))).2.1) s1 ((x_am_move s nx kp rw (g.2.2.2.2.2.2 (i + 1))).2.2.1) ((x_am_move s nx kp rw (g.2.2.2.2.2.2 (i + 1))).2.2.2.1) ((x_am_move s nx kp rw (g.2.2.2.2.2.2 (i + 1))).2.2.2.2) ic fi lc fl ∧ q_zone h h1 100 115) → h1.2 223 = some (.inl (4, 1, .inr (.inl f))) := fun h1 hb => (hb.2.2 _ (by omega) (by omega)).trans c223
  refine q_invSH (mc' := 4) (ms' := 24) (d' := d - 1) (as := [.ref 100, .int ((g.2.2.2.2.2.2 (i + 1))), .ref 223]) dL_law_744 kM_L_move kL_L_188 kT_L_move rfl rfl rfl (Nat.le_of_ble_eq_true rfl) (by omega) (by decide) (by omega) (by omega) (e_L_move (d := d - 1) (dd := d - 2) w.1.c0 hB9 ho9 (c_move (g := g) (h := h) (d := d - 2) w (g.2.2.2.2.2.2 (i + 1)) (by omega)) (by omega)) (q_kC (fun h1 hB => ?_)) q_xC
  obtain ⟨h0, ⟨wc1, q1⟩, e9⟩ := hB
  obtain ⟨f2, c223b, hf2⟩ := z_outL_c (o := q_oI ((x_am_move s nx kp rw (g.2.2.2.2.2.2 (i + 1))).1)) (hB9 h0 ⟨wc1, q1⟩)
  have qs : q_same h0 h1 223 1 := e9 ▸ z_outL_same
  rw [← e9] at c223b
  clear e9
  have hz : 225 ≤ h.1 := w.2.2.2.2.2.2.2.2.2.s0
  have hz0 : h.1 ≤ h0.1 := q1.1
  have c224b : h1.2 224 = _ := (qs.2 _ (by omega) (by omega)).trans ((q1.2 _ (by omega) (by omega)).trans c224)
  have w1 := wc1.keep (qs.wide (by omega) (by omega))
  have m1 := m.keepI (h1 := h1) (Nat.le_trans q1.1 qs.1) (fun j b1 b2 => (qs.2 j (by omega) (by omega)).trans (q1.2 j (by omega) (by omega)))
  clear wc1 hB9 ho9 m
  change q_W _ _ _ _ _ _ _ _ 747 [.ref 0, .ref 100, .ref 215, .ref 223, .ref 224, .int (nI i), q_u, q_u, q_u] [.int (z_cd [("java/util/NoSuchElementException", 1), ("java/lang/IllegalArgumentException", 2), ("java/lang/IllegalStateException", 3)] (q_oI ((x_am_move s nx kp rw (g.2.2.2.2.2.2 (i + 1))).1)))] h1
  rw [hcd]
  refine q_istore dL_law_747 (by decide) rfl ?_
  change q_W _ _ _ _ _ _ _ _ 749 [.ref 0, .ref 100, .ref 215, .ref 223, .ref 224, .int (nI i), .int ((x_mo_move al cg rs s.1 s.2.2.2.2.2.2.2.2.1 (g.2.2.2.2.2.2 (i + 1))).2.1), q_u, q_u] [] h1
  refine q_aload_n (by first | assumption | (rw [q_R0e]; omega)) dL_law_749 rfl ?_
  refine q_aload_nO ho dL_law_750 rfl ?_
  refine q_iload dL_law_751 rfl ?_
  refine q_iconst (v := 1) dL_law_753 rfl ?_
  refine q_iaddN (a := i) (b := 1) dL_law_754 ?_
  refine q_taldIN (by decide) dL_law_755 (rfl : q_ar g 0 = _) (by omega) hN ?_
  change q_W _ _ _ _ _ _ _ _ _ _ [.int (g.2.2.2.2.2.2 (i + 1)), .ref 215] _
  refine q_invV (mc' := 0) (ms' := 0) (d' := d - 1) (as := [.int ((g.2.2.2.2.2.2 (i + 1)))]) dL_law_756 kM_X11_move kL_L_190 kI_X11_move kS_X11_move rfl (kC_X11.1) m1.c0 rfl rfl (Nat.le_of_ble_eq_true rfl) (by omega) (by decide) (by omega) (by omega) (r_move (g := g) (d := d - 1) m1 e0 hn e3 hm (g.2.2.2.2.2.2 (i + 1)) p0 (by omega)) (q_kC (fun h3 hB3 => ?_)) q_xC
  obtain ⟨m3, q3⟩ := hB3
  obtain ⟨rs3, ac3, rj3, ro3, bf3, he3, er3, cm3, cn3, m3⟩ := m3
  change q_W _ _ _ _ _ _ _ _ 759 [.ref 0, .ref 100, .ref 215, .ref 223, .ref 224, .int (nI i), .int ((x_mo_move al cg rs s.1 s.2.2.2.2.2.2.2.2.1 (g.2.2.2.2.2.2 (i + 1))).2.1), q_u, q_u] [.int ((x_mo_move al cg rs s.1 s.2.2.2.2.2.2.2.2.1 (g.2.2.2.2.2.2 (i + 1))).1)] h3
  refine q_istore dL_law_759 (by decide) rfl ?_
  change q_W _ _ _ _ _ _ _ _ 761 [.ref 0, .ref 100, .ref 215, .ref 223, .ref 224, .int (nI i), .int ((x_mo_move al cg rs s.1 s.2.2.2.2.2.2.2.2.1 (g.2.2.2.2.2.2 (i + 1))).2.1), .int ((x_mo_move al cg rs s.1 s.2.2.2.2.2.2.2.2.1 (g.2.2.2.2.2.2 (i + 1))).1), q_u] [] h3
  refine q_aload_n (by first | assumption | (rw [q_R0e]; omega)) dL_law_761 rfl ?_
  refine q_invV (mc' := 0) (ms' := 0) (d' := d - 1) (as := []) dL_law_762 kM_X11_thrown kL_L_166 kI_X11_thrown kS_X11_thrown rfl (kC_X11.1) m3.c0 rfl rfl (Nat.le_of_ble_eq_true rfl) (by omega) (by decide) (by omega) (by omega) (e_mo_thrownR (d := d - 1) m3 (by omega)) (q_kR ?_) q_xR
  change q_W _ _ _ _ _ _ _ _ 765 [.ref 0, .ref 100, .ref 215, .ref 223, .ref 224, .int (nI i), .int ((x_mo_move al cg rs s.1 s.2.2.2.2.2.2.2.2.1 (g.2.2.2.2.2.2 (i + 1))).2.1), .int ((x_mo_move al cg rs s.1 s.2.2.2.2.2.2.2.2.1 (g.2.2.2.2.2.2 (i + 1))).1), q_u] [.int ((x_mo_move al cg rs s.1 s.2.2.2.2.2.2.2.2.1 (g.2.2.2.2.2.2 (i + 1))).2.1)] h3
  refine q_iload dL_law_765 rfl ?_
  refine q_icmp_eq 772 dL_law_767 (by decide) (fun _ => ?_) (fun b => absurd rfl b)
  refine q_iload dL_law_772 rfl ?_
  have hz3 : h1.1 ≤ h3.1 := q3.1
  have hz4 : h0.1 ≤ h1.1 := qs.1
  have fin : q_W g mL_law d mc ms Q (kc + 4) (ks + 24) 789 [.ref 0, .ref 100, .ref 215, .ref 223, .ref 224, .int (nI i), .int ((x_mo_move al cg rs s.1 s.2.2.2.2.2.2.2.2.1 (g.2.2.2.2.2.2 (i + 1))).2.1), .int ((x_mo_move al cg rs s.1 s.2.2.2.2.2.2.2.2.1 (g.2.2.2.2.2.2 (i + 1))).1), q_u] [] h3 := by
    refine q_goto 2985 dL_law_789 (by decide) ?_
    refine q_forget 6 ?_
    refine q_forget 7 ?_
    change q_W _ _ _ _ _ _ _ _ 2985 [.ref 0, .ref 100, .ref 215, .ref 223, .ref 224, .int (nI i), q_u, q_u, q_u] [] h3
    exact q_widen (by omega) (by omega) (K h3 ⟨_, _, _, _, _, _, _, _, _, _, _, _, _, _, _, _, _, _, _, _, _, _, w1.keep (q3.wide (by omega) (by omega)), ⟨_, ⟨_, _, _, _, _, _, _, _, _, m3⟩⟩, ⟨_, (q3.2 _ (by omega) (by omega)).trans c223b⟩, ⟨_, (q3.2 _ (by omega) (by omega)).trans c224b⟩, J2⟩)
  refine q_if_ne 789 dL_law_774 (by decide) (fun _ => fin) (fun b => ?_)
  have eo9 : (q_oI ((x_am_move s nx kp rw (g.2.2.2.2.2.2 (i + 1))).1)) = .inl (some (.int ((x_mo_move al cg rs s.1 s.2.2.2.2.2.2.2.2.1 (g.2.2.2.2.2.2 (i + 1))).1))) := by
    rcases ag with ⟨et, eo⟩ | ⟨et, eo⟩ | ⟨et, eo⟩ | ⟨et, eo⟩
    · exact absurd (et.symm.trans b) (by decide)
    · exact absurd (et.symm.trans b) (by decide)
    · exact absurd (et.symm.trans b) (by decide)
    · exact eo
  have ev := hf2 _ eo9
  refine q_aload_n (by first | assumption | (rw [q_R0e]; omega)) dL_law_777 rfl ?_
  refine q_iconst (v := 0) dL_law_778 rfl ?_
  refine q_lald (f := f2) dL_law_779 ((q3.2 _ (by omega) (by omega)).trans c223b) (vp_in_nI (n := 0) (N := 1) (by decide) (by decide)) ?_
  change q_W _ _ _ _ _ _ _ _ _ _ [.long (f2 0)] _
  rw [ev]
  refine q_iload dL_law_780 rfl ?_
  refine q_i2l dL_law_782 rfl ?_
  refine q_lcmp dL_law_783 ?_
  rw [z_lcmp]
  exact q_if_eq 789 dL_law_784 (by decide) (fun _ => fin) (fun b => absurd rfl b)
set_option maxRecDepth 100000 in
set_option maxHeartbeats 4000000 in
theorem l_c_takeBack {g : q_G} {h : q_H} {d mc ms kc ks i t : Nat} {Q : q_O → q_H → Prop} (hP : z_P_takeBack) (hI : z_I t h) (ht : t < 512) (hi : i + 2 < g.2.2.2.2.2.1) (hN : g.2.2.2.2.2.1 < 2 ^ 31) (ho : q_isold g 0) (hd : 26 ≤ d) (hkc : kc + 66 ≤ mc) (hks : ks + 10588 ≤ ms) (K : ∀ h2, z_I (t + 1) h2 → q_W g mL_law d mc ms Q (kc + 66) (ks + 10588) 2985 [.ref 0, .ref 100, .ref 215, .ref 223, .ref 224, .int (nI i), q_u, q_u, q_u] [] h2) : q_W g mL_law d mc ms Q kc ks 792 [.ref 0, .ref 100, .ref 215, .ref 223, .ref 224, .int (nI i), q_u, q_u, q_u] [] h := by
  obtain ⟨hs, se, sf, s, s1, nx, kp, rw, ic, fi, lc, fl, al, cg, sv, ad, ln, lz, ip, ty, ea, fa, wc, ⟨th, wm⟩, ⟨f, c223⟩, ⟨fd, c224⟩, J⟩ := hI
  obtain ⟨s2, ca, cj, co, won, lost, pf, cv, sc, pc, pp, po, vb, oa, ob, w⟩ := wc
  obtain ⟨rs, ac, rj, ro, bf, he, er, cm, cn, m⟩ := wm
  obtain ⟨e0, hn, e3, hm⟩ := J.n0
  obtain ⟨ag, J2⟩ := hP t hs se sf s s1 nx kp rw ic fi lc fl al cg sv ad ln lz ip ty ea fa rs  ht J
  refine q_aload_n (by first | assumption | (rw [q_R0e]; omega)) dL_law_792 rfl ?_
  refine q_aload_n (by first | assumption | (rw [q_R0e]; omega)) dL_law_793 rfl ?_
  have ho9 : (∃ v, (q_oI ((x_am_takeBack s nx kp rw).1)) = .inl (some (.int v))) ∨ (q_oI ((x_am_takeBack s nx kp rw).1)) = .inr "java/util/NoSuchElementException" ∨ (q_oI ((x_am_takeBack s nx kp rw).1)) = .inr "java/lang/IllegalStateException" := by
    rcases ag with ⟨et, eo⟩ | ⟨et, eo⟩ | ⟨et, eo⟩
    · exact Or.inr (Or.inl eo)
    · exact Or.inr (Or.inr (eo))
    · exact Or.inl ⟨_, eo⟩
  have hcd : z_cd [("java/util/NoSuchElementException", 1), ("java/lang/IllegalStateException", 2)] (q_oI ((x_am_takeBack s nx kp rw).1)) = (x_mo_takeBack al cg rs s.2.2.2.2.2.2.2.2.1).2.1 := by
    rcases ag with ⟨et, eo⟩ | ⟨et, eo⟩ | ⟨et, eo⟩
    · rw [et, eo]; rfl
    · rw [et, eo]; rfl
    · rw [et, eo]; rfl
  have hB9 : ∀ h1, (z_C h1 hs se sf ((x_am_takeBack s nx kp rw).2.1) s1 ((x_am_takeBack s nx kp rw).2.2.1) ((x_am_takeBack s nx kp rw).2.2.2.1) ((x_am_takeBack s nx kp rw).2.2.2.2) ic fi lc fl ∧ q_zone h h1 100 115) → h1.2 223 = some (.inl (4, 1, .inr (.inl f))) := fun h1 hb => (hb.2.2 _ (by omega) (by omega)).trans c223
  refine q_invSH (mc' := 4) (ms' := 24) (d' := d - 1) (as := [.ref 100, .ref 223]) dL_law_794 kM_L_takeBack kL_L_191 kT_L_takeBack rfl rfl rfl (Nat.le_of_ble_eq_true rfl) (by omega) (by decide) (by omega) (by omega) (e_L_takeBack (d := d - 1) (dd := d - 2) w.1.c0 hB9 ho9 (c_takeBack (g := g) (h := h) (d := d - 2) w (by omega)) (by omega)) (q_kC (fun h1 hB => ?_)) q_xC
  obtain ⟨h0, ⟨wc1, q1⟩, e9⟩ := hB
  obtain ⟨f2, c223b, hf2⟩ := z_outL_c (o := q_oI ((x_am_takeBack s nx kp rw).1)) (hB9 h0 ⟨wc1, q1⟩)
  have qs : q_same h0 h1 223 1 := e9 ▸ z_outL_same
  rw [← e9] at c223b
  clear e9
  have hz : 225 ≤ h.1 := w.2.2.2.2.2.2.2.2.2.s0
  have hz0 : h.1 ≤ h0.1 := q1.1
  have c224b : h1.2 224 = _ := (qs.2 _ (by omega) (by omega)).trans ((q1.2 _ (by omega) (by omega)).trans c224)
  have w1 := wc1.keep (qs.wide (by omega) (by omega))
  have m1 := m.keepI (h1 := h1) (Nat.le_trans q1.1 qs.1) (fun j b1 b2 => (qs.2 j (by omega) (by omega)).trans (q1.2 j (by omega) (by omega)))
  clear wc1 hB9 ho9 m
  change q_W _ _ _ _ _ _ _ _ 797 [.ref 0, .ref 100, .ref 215, .ref 223, .ref 224, .int (nI i), q_u, q_u, q_u] [.int (z_cd [("java/util/NoSuchElementException", 1), ("java/lang/IllegalStateException", 2)] (q_oI ((x_am_takeBack s nx kp rw).1)))] h1
  rw [hcd]
  refine q_istore dL_law_797 (by decide) rfl ?_
  change q_W _ _ _ _ _ _ _ _ 799 [.ref 0, .ref 100, .ref 215, .ref 223, .ref 224, .int (nI i), .int ((x_mo_takeBack al cg rs s.2.2.2.2.2.2.2.2.1).2.1), q_u, q_u] [] h1
  refine q_aload_n (by first | assumption | (rw [q_R0e]; omega)) dL_law_799 rfl ?_
  refine q_invV (mc' := 0) (ms' := 0) (d' := d - 1) (as := []) dL_law_800 kM_X11_takeBack kL_L_194 kI_X11_takeBack kS_X11_takeBack rfl (kC_X11.1) m1.c0 rfl rfl (Nat.le_of_ble_eq_true rfl) (by omega) (by decide) (by omega) (by omega) (r_takeBack (g := g) (d := d - 1) m1 e0 hn e3 hm (by omega)) (q_kC (fun h3 hB3 => ?_)) q_xC
  obtain ⟨m3, q3⟩ := hB3
  obtain ⟨rs3, ac3, rj3, ro3, bf3, he3, er3, cm3, cn3, m3⟩ := m3
  change q_W _ _ _ _ _ _ _ _ 803 [.ref 0, .ref 100, .ref 215, .ref 223, .ref 224, .int (nI i), .int ((x_mo_takeBack al cg rs s.2.2.2.2.2.2.2.2.1).2.1), q_u, q_u] [.int ((x_mo_takeBack al cg rs s.2.2.2.2.2.2.2.2.1).1)] h3
  refine q_istore dL_law_803 (by decide) rfl ?_
  change q_W _ _ _ _ _ _ _ _ 805 [.ref 0, .ref 100, .ref 215, .ref 223, .ref 224, .int (nI i), .int ((x_mo_takeBack al cg rs s.2.2.2.2.2.2.2.2.1).2.1), .int ((x_mo_takeBack al cg rs s.2.2.2.2.2.2.2.2.1).1), q_u] [] h3
  refine q_aload_n (by first | assumption | (rw [q_R0e]; omega)) dL_law_805 rfl ?_
  refine q_invV (mc' := 0) (ms' := 0) (d' := d - 1) (as := []) dL_law_806 kM_X11_thrown kL_L_166 kI_X11_thrown kS_X11_thrown rfl (kC_X11.1) m3.c0 rfl rfl (Nat.le_of_ble_eq_true rfl) (by omega) (by decide) (by omega) (by omega) (e_mo_thrownR (d := d - 1) m3 (by omega)) (q_kR ?_) q_xR
  change q_W _ _ _ _ _ _ _ _ 809 [.ref 0, .ref 100, .ref 215, .ref 223, .ref 224, .int (nI i), .int ((x_mo_takeBack al cg rs s.2.2.2.2.2.2.2.2.1).2.1), .int ((x_mo_takeBack al cg rs s.2.2.2.2.2.2.2.2.1).1), q_u] [.int ((x_mo_takeBack al cg rs s.2.2.2.2.2.2.2.2.1).2.1)] h3
  refine q_iload dL_law_809 rfl ?_
  refine q_icmp_eq 816 dL_law_811 (by decide) (fun _ => ?_) (fun b => absurd rfl b)
  refine q_iload dL_law_816 rfl ?_
  have hz3 : h1.1 ≤ h3.1 := q3.1
  have hz4 : h0.1 ≤ h1.1 := qs.1
  have fin : q_W g mL_law d mc ms Q (kc + 4) (ks + 24) 833 [.ref 0, .ref 100, .ref 215, .ref 223, .ref 224, .int (nI i), .int ((x_mo_takeBack al cg rs s.2.2.2.2.2.2.2.2.1).2.1), .int ((x_mo_takeBack al cg rs s.2.2.2.2.2.2.2.2.1).1), q_u] [] h3 := by
    refine q_goto 2985 dL_law_833 (by decide) ?_
    refine q_forget 6 ?_
    refine q_forget 7 ?_
    change q_W _ _ _ _ _ _ _ _ 2985 [.ref 0, .ref 100, .ref 215, .ref 223, .ref 224, .int (nI i), q_u, q_u, q_u] [] h3
    exact q_widen (by omega) (by omega) (K h3 ⟨_, _, _, _, _, _, _, _, _, _, _, _, _, _, _, _, _, _, _, _, _, _, w1.keep (q3.wide (by omega) (by omega)), ⟨_, ⟨_, _, _, _, _, _, _, _, _, m3⟩⟩, ⟨_, (q3.2 _ (by omega) (by omega)).trans c223b⟩, ⟨_, (q3.2 _ (by omega) (by omega)).trans c224b⟩, J2⟩)
  refine q_if_ne 833 dL_law_818 (by decide) (fun _ => fin) (fun b => ?_)
  have eo9 : (q_oI ((x_am_takeBack s nx kp rw).1)) = .inl (some (.int ((x_mo_takeBack al cg rs s.2.2.2.2.2.2.2.2.1).1))) := by
    rcases ag with ⟨et, eo⟩ | ⟨et, eo⟩ | ⟨et, eo⟩
    · exact absurd (et.symm.trans b) (by decide)
    · exact absurd (et.symm.trans b) (by decide)
    · exact eo
  have ev := hf2 _ eo9
  refine q_aload_n (by first | assumption | (rw [q_R0e]; omega)) dL_law_821 rfl ?_
  refine q_iconst (v := 0) dL_law_822 rfl ?_
  refine q_lald (f := f2) dL_law_823 ((q3.2 _ (by omega) (by omega)).trans c223b) (vp_in_nI (n := 0) (N := 1) (by decide) (by decide)) ?_
  change q_W _ _ _ _ _ _ _ _ _ _ [.long (f2 0)] _
  rw [ev]
  refine q_iload dL_law_824 rfl ?_
  refine q_i2l dL_law_826 rfl ?_
  refine q_lcmp dL_law_827 ?_
  rw [z_lcmp]
  exact q_if_eq 833 dL_law_828 (by decide) (fun _ => fin) (fun b => absurd rfl b)
set_option maxRecDepth 100000 in
set_option maxHeartbeats 4000000 in
theorem l_c_endDialogue {g : q_G} {h : q_H} {d mc ms kc ks i t : Nat} {Q : q_O → q_H → Prop} (hP : z_P_endDialogue) (hI : z_I t h) (ht : t < 512) (hi : i + 2 < g.2.2.2.2.2.1) (hN : g.2.2.2.2.2.1 < 2 ^ 31) (ho : q_isold g 0) (hd : 26 ≤ d) (hkc : kc + 66 ≤ mc) (hks : ks + 10588 ≤ ms) (K : ∀ h2, z_I (t + 1) h2 → q_W g mL_law d mc ms Q (kc + 66) (ks + 10588) 2985 [.ref 0, .ref 100, .ref 215, .ref 223, .ref 224, .int (nI i), q_u, q_u, q_u] [] h2) : q_W g mL_law d mc ms Q kc ks 836 [.ref 0, .ref 100, .ref 215, .ref 223, .ref 224, .int (nI i), q_u, q_u, q_u] [] h := by
  obtain ⟨hs, se, sf, s, s1, nx, kp, rw, ic, fi, lc, fl, al, cg, sv, ad, ln, lz, ip, ty, ea, fa, wc, ⟨th, wm⟩, ⟨f, c223⟩, ⟨fd, c224⟩, J⟩ := hI
  obtain ⟨s2, ca, cj, co, won, lost, pf, cv, sc, pc, pp, po, vb, oa, ob, w⟩ := wc
  obtain ⟨rs, ac, rj, ro, bf, he, er, cm, cn, m⟩ := wm
  obtain ⟨e0, hn, e3, hm⟩ := J.n0
  obtain ⟨ag, J2⟩ := hP t hs se sf s s1 nx kp rw ic fi lc fl al cg sv ad ln lz ip ty ea fa rs  ht J
  refine q_aload_n (by first | assumption | (rw [q_R0e]; omega)) dL_law_836 rfl ?_
  refine q_aload_n (by first | assumption | (rw [q_R0e]; omega)) dL_law_837 rfl ?_
  have ho9 : (∃ v, (q_oI ((x_am_endDialogue s nx kp rw).1)) = .inl (some (.int v))) ∨ (q_oI ((x_am_endDialogue s nx kp rw).1)) = .inr "java/util/NoSuchElementException" := by
    rcases ag with ⟨et, eo⟩ | ⟨et, eo⟩
    · exact Or.inr (eo)
    · exact Or.inl ⟨_, eo⟩
  have hcd : z_cd [("java/util/NoSuchElementException", 1)] (q_oI ((x_am_endDialogue s nx kp rw).1)) = (x_mo_endDialogue al cg rs s.2.2.2.2.2.2.2.2.1).2.1 := by
    rcases ag with ⟨et, eo⟩ | ⟨et, eo⟩
    · rw [et, eo]; rfl
    · rw [et, eo]; rfl
  have hB9 : ∀ h1, (z_C h1 hs se sf ((x_am_endDialogue s nx kp rw).2.1) s1 ((x_am_endDialogue s nx kp rw).2.2.1) ((x_am_endDialogue s nx kp rw).2.2.2.1) ((x_am_endDialogue s nx kp rw).2.2.2.2) ic fi lc fl ∧ q_zone h h1 100 115) → h1.2 223 = some (.inl (4, 1, .inr (.inl f))) := fun h1 hb => (hb.2.2 _ (by omega) (by omega)).trans c223
  refine q_invSH (mc' := 4) (ms' := 24) (d' := d - 1) (as := [.ref 100, .ref 223]) dL_law_838 kM_L_endDialogue kL_L_195 kT_L_endDialogue rfl rfl rfl (Nat.le_of_ble_eq_true rfl) (by omega) (by decide) (by omega) (by omega) (e_L_endDialogue (d := d - 1) (dd := d - 2) w.1.c0 hB9 ho9 (c_endDialogue (g := g) (h := h) (d := d - 2) w (by omega)) (by omega)) (q_kC (fun h1 hB => ?_)) q_xC
  obtain ⟨h0, ⟨wc1, q1⟩, e9⟩ := hB
  obtain ⟨f2, c223b, hf2⟩ := z_outL_c (o := q_oI ((x_am_endDialogue s nx kp rw).1)) (hB9 h0 ⟨wc1, q1⟩)
  have qs : q_same h0 h1 223 1 := e9 ▸ z_outL_same
  rw [← e9] at c223b
  clear e9
  have hz : 225 ≤ h.1 := w.2.2.2.2.2.2.2.2.2.s0
  have hz0 : h.1 ≤ h0.1 := q1.1
  have c224b : h1.2 224 = _ := (qs.2 _ (by omega) (by omega)).trans ((q1.2 _ (by omega) (by omega)).trans c224)
  have w1 := wc1.keep (qs.wide (by omega) (by omega))
  have m1 := m.keepI (h1 := h1) (Nat.le_trans q1.1 qs.1) (fun j b1 b2 => (qs.2 j (by omega) (by omega)).trans (q1.2 j (by omega) (by omega)))
  clear wc1 hB9 ho9 m
  change q_W _ _ _ _ _ _ _ _ 841 [.ref 0, .ref 100, .ref 215, .ref 223, .ref 224, .int (nI i), q_u, q_u, q_u] [.int (z_cd [("java/util/NoSuchElementException", 1)] (q_oI ((x_am_endDialogue s nx kp rw).1)))] h1
  rw [hcd]
  refine q_istore dL_law_841 (by decide) rfl ?_
  change q_W _ _ _ _ _ _ _ _ 843 [.ref 0, .ref 100, .ref 215, .ref 223, .ref 224, .int (nI i), .int ((x_mo_endDialogue al cg rs s.2.2.2.2.2.2.2.2.1).2.1), q_u, q_u] [] h1
  refine q_aload_n (by first | assumption | (rw [q_R0e]; omega)) dL_law_843 rfl ?_
  refine q_invV (mc' := 0) (ms' := 0) (d' := d - 1) (as := []) dL_law_844 kM_X11_endDialogue kL_L_197 kI_X11_endDialogue kS_X11_endDialogue rfl (kC_X11.1) m1.c0 rfl rfl (Nat.le_of_ble_eq_true rfl) (by omega) (by decide) (by omega) (by omega) (r_endDialogue (g := g) (d := d - 1) m1 e0 hn e3 hm (by omega)) (q_kC (fun h3 hB3 => ?_)) q_xC
  obtain ⟨m3, q3⟩ := hB3
  obtain ⟨rs3, ac3, rj3, ro3, bf3, he3, er3, cm3, cn3, m3⟩ := m3
  change q_W _ _ _ _ _ _ _ _ 847 [.ref 0, .ref 100, .ref 215, .ref 223, .ref 224, .int (nI i), .int ((x_mo_endDialogue al cg rs s.2.2.2.2.2.2.2.2.1).2.1), q_u, q_u] [.int ((x_mo_endDialogue al cg rs s.2.2.2.2.2.2.2.2.1).1)] h3
  refine q_istore dL_law_847 (by decide) rfl ?_
  change q_W _ _ _ _ _ _ _ _ 849 [.ref 0, .ref 100, .ref 215, .ref 223, .ref 224, .int (nI i), .int ((x_mo_endDialogue al cg rs s.2.2.2.2.2.2.2.2.1).2.1), .int ((x_mo_endDialogue al cg rs s.2.2.2.2.2.2.2.2.1).1), q_u] [] h3
  refine q_aload_n (by first | assumption | (rw [q_R0e]; omega)) dL_law_849 rfl ?_
  refine q_invV (mc' := 0) (ms' := 0) (d' := d - 1) (as := []) dL_law_850 kM_X11_thrown kL_L_166 kI_X11_thrown kS_X11_thrown rfl (kC_X11.1) m3.c0 rfl rfl (Nat.le_of_ble_eq_true rfl) (by omega) (by decide) (by omega) (by omega) (e_mo_thrownR (d := d - 1) m3 (by omega)) (q_kR ?_) q_xR
  change q_W _ _ _ _ _ _ _ _ 853 [.ref 0, .ref 100, .ref 215, .ref 223, .ref 224, .int (nI i), .int ((x_mo_endDialogue al cg rs s.2.2.2.2.2.2.2.2.1).2.1), .int ((x_mo_endDialogue al cg rs s.2.2.2.2.2.2.2.2.1).1), q_u] [.int ((x_mo_endDialogue al cg rs s.2.2.2.2.2.2.2.2.1).2.1)] h3
  refine q_iload dL_law_853 rfl ?_
  refine q_icmp_eq 860 dL_law_855 (by decide) (fun _ => ?_) (fun b => absurd rfl b)
  refine q_iload dL_law_860 rfl ?_
  have hz3 : h1.1 ≤ h3.1 := q3.1
  have hz4 : h0.1 ≤ h1.1 := qs.1
  have fin : q_W g mL_law d mc ms Q (kc + 4) (ks + 24) 877 [.ref 0, .ref 100, .ref 215, .ref 223, .ref 224, .int (nI i), .int ((x_mo_endDialogue al cg rs s.2.2.2.2.2.2.2.2.1).2.1), .int ((x_mo_endDialogue al cg rs s.2.2.2.2.2.2.2.2.1).1), q_u] [] h3 := by
    refine q_goto 2985 dL_law_877 (by decide) ?_
    refine q_forget 6 ?_
    refine q_forget 7 ?_
    change q_W _ _ _ _ _ _ _ _ 2985 [.ref 0, .ref 100, .ref 215, .ref 223, .ref 224, .int (nI i), q_u, q_u, q_u] [] h3
    exact q_widen (by omega) (by omega) (K h3 ⟨_, _, _, _, _, _, _, _, _, _, _, _, _, _, _, _, _, _, _, _, _, _, w1.keep (q3.wide (by omega) (by omega)), ⟨_, ⟨_, _, _, _, _, _, _, _, _, m3⟩⟩, ⟨_, (q3.2 _ (by omega) (by omega)).trans c223b⟩, ⟨_, (q3.2 _ (by omega) (by omega)).trans c224b⟩, J2⟩)
  refine q_if_ne 877 dL_law_862 (by decide) (fun _ => fin) (fun b => ?_)
  have eo9 : (q_oI ((x_am_endDialogue s nx kp rw).1)) = .inl (some (.int ((x_mo_endDialogue al cg rs s.2.2.2.2.2.2.2.2.1).1))) := by
    rcases ag with ⟨et, eo⟩ | ⟨et, eo⟩
    · exact absurd (et.symm.trans b) (by decide)
    · exact eo
  have ev := hf2 _ eo9
  refine q_aload_n (by first | assumption | (rw [q_R0e]; omega)) dL_law_865 rfl ?_
  refine q_iconst (v := 0) dL_law_866 rfl ?_
  refine q_lald (f := f2) dL_law_867 ((q3.2 _ (by omega) (by omega)).trans c223b) (vp_in_nI (n := 0) (N := 1) (by decide) (by decide)) ?_
  change q_W _ _ _ _ _ _ _ _ _ _ [.long (f2 0)] _
  rw [ev]
  refine q_iload dL_law_868 rfl ?_
  refine q_i2l dL_law_870 rfl ?_
  refine q_lcmp dL_law_871 ?_
  rw [z_lcmp]
  exact q_if_eq 877 dL_law_872 (by decide) (fun _ => fin) (fun b => absurd rfl b)
set_option maxRecDepth 100000 in
set_option maxHeartbeats 4000000 in
theorem l_c_pass {g : q_G} {h : q_H} {d mc ms kc ks i t : Nat} {Q : q_O → q_H → Prop} (hP : z_P_pass) (hI : z_I t h) (ht : t < 512) (hi : i + 2 < g.2.2.2.2.2.1) (hN : g.2.2.2.2.2.1 < 2 ^ 31) (ho : q_isold g 0) (hd : 26 ≤ d) (hkc : kc + 66 ≤ mc) (hks : ks + 10588 ≤ ms) (K : ∀ h2, z_I (t + 1) h2 → q_W g mL_law d mc ms Q (kc + 66) (ks + 10588) 2985 [.ref 0, .ref 100, .ref 215, .ref 223, .ref 224, .int (nI i), q_u, q_u, q_u] [] h2) : q_W g mL_law d mc ms Q kc ks 880 [.ref 0, .ref 100, .ref 215, .ref 223, .ref 224, .int (nI i), q_u, q_u, q_u] [] h := by
  obtain ⟨hs, se, sf, s, s1, nx, kp, rw, ic, fi, lc, fl, al, cg, sv, ad, ln, lz, ip, ty, ea, fa, wc, ⟨th, wm⟩, ⟨f, c223⟩, ⟨fd, c224⟩, J⟩ := hI
  obtain ⟨s2, ca, cj, co, won, lost, pf, cv, sc, pc, pp, po, vb, oa, ob, w⟩ := wc
  obtain ⟨rs, ac, rj, ro, bf, he, er, cm, cn, m⟩ := wm
  obtain ⟨e0, hn, e3, hm⟩ := J.n0
  obtain ⟨ag, J2⟩ := hP t hs se sf s s1 nx kp rw ic fi lc fl al cg sv ad ln lz ip ty ea fa rs bf (g.2.2.2.2.2.2 (i + 1)) ht J
  refine q_aload_n (by first | assumption | (rw [q_R0e]; omega)) dL_law_880 rfl ?_
  refine q_aload_nO ho dL_law_881 rfl ?_
  refine q_iload dL_law_882 rfl ?_
  refine q_iconst (v := 1) dL_law_884 rfl ?_
  refine q_iaddN (a := i) (b := 1) dL_law_885 ?_
  refine q_taldIN (by decide) dL_law_886 (rfl : q_ar g 0 = _) (by omega) hN ?_
  change q_W _ _ _ _ _ _ _ _ _ _ [.int (g.2.2.2.2.2.2 (i + 1)), .ref 100] _
  refine q_aload_n (by first | assumption | (rw [q_R0e]; omega)) dL_law_887 rfl ?_
  have ho9 : (∃ v, (q_oI ((x_am_pass s nx kp rw (g.2.2.2.2.2.2 (i + 1))).1)) = .inl (some (.int v))) ∨ (q_oI ((x_am_pass s nx kp rw (g.2.2.2.2.2.2 (i + 1))).1)) = .inr "java/lang/IllegalArgumentException" := by
    rcases ag with ⟨et, eo⟩ | ⟨et, eo⟩
    · exact Or.inr (eo)
    · exact Or.inl ⟨_, eo⟩
  have hcd : z_cd [("java/lang/IllegalArgumentException", 1)] (q_oI ((x_am_pass s nx kp rw (g.2.2.2.2.2.2 (i + 1))).1)) = (x_mo_pass al cg rs bf s.1 (g.2.2.2.2.2.2 (i + 1))).2.1 := by
    rcases ag with ⟨et, eo⟩ | ⟨et, eo⟩
    · rw [et, eo]; rfl
    · rw [et, eo]; rfl
  have hB9 : ∀ h1, (z_C h1 hs se sf ((x_am_pass s nx kp rw (g.2.2.2.2.2.2 (i + 1))).2.1) s1 ((x_am_pass s nx kp rw (g.2.2.2.2.2.2 (i + 1))).2.2.1) ((x_am_pass s nx kp rw (g.2.2.2.2.2.2 (i + 1))).2.2.2.1) ((x_am_pass s nx kp rw (g.2.2.2.2.2.2 (i + 1))).2.2.2.2) ic fi lc fl ∧ q_zone h h1 100 115) → h1.2 223 = some (.inl (4, 1, .inr (.inl f))) := fun h1 hb => (hb.2.2 _ (by omega) (by omega)).trans c223
  refine q_invSH (mc' := 4) (ms' := 24) (d' := d - 1) (as := [.ref 100, .int ((g.2.2.2.2.2.2 (i + 1))), .ref 223]) dL_law_888 kM_L_pass kL_L_198 kT_L_pass rfl rfl rfl (Nat.le_of_ble_eq_true rfl) (by omega) (by decide) (by omega) (by omega) (e_L_pass (d := d - 1) (dd := d - 2) w.1.c0 hB9 ho9 (c_pass (g := g) (h := h) (d := d - 2) w (g.2.2.2.2.2.2 (i + 1)) (by omega)) (by omega)) (q_kC (fun h1 hB => ?_)) q_xC
  obtain ⟨h0, ⟨wc1, q1⟩, e9⟩ := hB
  obtain ⟨f2, c223b, hf2⟩ := z_outL_c (o := q_oI ((x_am_pass s nx kp rw (g.2.2.2.2.2.2 (i + 1))).1)) (hB9 h0 ⟨wc1, q1⟩)
  have qs : q_same h0 h1 223 1 := e9 ▸ z_outL_same
  rw [← e9] at c223b
  clear e9
  have hz : 225 ≤ h.1 := w.2.2.2.2.2.2.2.2.2.s0
  have hz0 : h.1 ≤ h0.1 := q1.1
  have c224b : h1.2 224 = _ := (qs.2 _ (by omega) (by omega)).trans ((q1.2 _ (by omega) (by omega)).trans c224)
  have w1 := wc1.keep (qs.wide (by omega) (by omega))
  have m1 := m.keepI (h1 := h1) (Nat.le_trans q1.1 qs.1) (fun j b1 b2 => (qs.2 j (by omega) (by omega)).trans (q1.2 j (by omega) (by omega)))
  clear wc1 hB9 ho9 m
  change q_W _ _ _ _ _ _ _ _ 891 [.ref 0, .ref 100, .ref 215, .ref 223, .ref 224, .int (nI i), q_u, q_u, q_u] [.int (z_cd [("java/lang/IllegalArgumentException", 1)] (q_oI ((x_am_pass s nx kp rw (g.2.2.2.2.2.2 (i + 1))).1)))] h1
  rw [hcd]
  refine q_istore dL_law_891 (by decide) rfl ?_
  change q_W _ _ _ _ _ _ _ _ 893 [.ref 0, .ref 100, .ref 215, .ref 223, .ref 224, .int (nI i), .int ((x_mo_pass al cg rs bf s.1 (g.2.2.2.2.2.2 (i + 1))).2.1), q_u, q_u] [] h1
  refine q_aload_n (by first | assumption | (rw [q_R0e]; omega)) dL_law_893 rfl ?_
  refine q_aload_nO ho dL_law_894 rfl ?_
  refine q_iload dL_law_895 rfl ?_
  refine q_iconst (v := 1) dL_law_897 rfl ?_
  refine q_iaddN (a := i) (b := 1) dL_law_898 ?_
  refine q_taldIN (by decide) dL_law_899 (rfl : q_ar g 0 = _) (by omega) hN ?_
  change q_W _ _ _ _ _ _ _ _ _ _ [.int (g.2.2.2.2.2.2 (i + 1)), .ref 215] _
  refine q_invV (mc' := 0) (ms' := 0) (d' := d - 1) (as := [.int ((g.2.2.2.2.2.2 (i + 1)))]) dL_law_900 kM_X11_pass kL_L_200 kI_X11_pass kS_X11_pass rfl (kC_X11.1) m1.c0 rfl rfl (Nat.le_of_ble_eq_true rfl) (by omega) (by decide) (by omega) (by omega) (r_pass (g := g) (d := d - 1) m1 e0 hn e3 hm (g.2.2.2.2.2.2 (i + 1)) (by omega)) (q_kC (fun h3 hB3 => ?_)) q_xC
  obtain ⟨m3, q3⟩ := hB3
  obtain ⟨rs3, ac3, rj3, ro3, bf3, he3, er3, cm3, cn3, m3⟩ := m3
  change q_W _ _ _ _ _ _ _ _ 903 [.ref 0, .ref 100, .ref 215, .ref 223, .ref 224, .int (nI i), .int ((x_mo_pass al cg rs bf s.1 (g.2.2.2.2.2.2 (i + 1))).2.1), q_u, q_u] [.int ((x_mo_pass al cg rs bf s.1 (g.2.2.2.2.2.2 (i + 1))).1)] h3
  refine q_istore dL_law_903 (by decide) rfl ?_
  change q_W _ _ _ _ _ _ _ _ 905 [.ref 0, .ref 100, .ref 215, .ref 223, .ref 224, .int (nI i), .int ((x_mo_pass al cg rs bf s.1 (g.2.2.2.2.2.2 (i + 1))).2.1), .int ((x_mo_pass al cg rs bf s.1 (g.2.2.2.2.2.2 (i + 1))).1), q_u] [] h3
  refine q_aload_n (by first | assumption | (rw [q_R0e]; omega)) dL_law_905 rfl ?_
  refine q_invV (mc' := 0) (ms' := 0) (d' := d - 1) (as := []) dL_law_906 kM_X11_thrown kL_L_166 kI_X11_thrown kS_X11_thrown rfl (kC_X11.1) m3.c0 rfl rfl (Nat.le_of_ble_eq_true rfl) (by omega) (by decide) (by omega) (by omega) (e_mo_thrownR (d := d - 1) m3 (by omega)) (q_kR ?_) q_xR
  change q_W _ _ _ _ _ _ _ _ 909 [.ref 0, .ref 100, .ref 215, .ref 223, .ref 224, .int (nI i), .int ((x_mo_pass al cg rs bf s.1 (g.2.2.2.2.2.2 (i + 1))).2.1), .int ((x_mo_pass al cg rs bf s.1 (g.2.2.2.2.2.2 (i + 1))).1), q_u] [.int ((x_mo_pass al cg rs bf s.1 (g.2.2.2.2.2.2 (i + 1))).2.1)] h3
  refine q_iload dL_law_909 rfl ?_
  refine q_icmp_eq 916 dL_law_911 (by decide) (fun _ => ?_) (fun b => absurd rfl b)
  refine q_iload dL_law_916 rfl ?_
  have hz3 : h1.1 ≤ h3.1 := q3.1
  have hz4 : h0.1 ≤ h1.1 := qs.1
  have fin : q_W g mL_law d mc ms Q (kc + 4) (ks + 24) 933 [.ref 0, .ref 100, .ref 215, .ref 223, .ref 224, .int (nI i), .int ((x_mo_pass al cg rs bf s.1 (g.2.2.2.2.2.2 (i + 1))).2.1), .int ((x_mo_pass al cg rs bf s.1 (g.2.2.2.2.2.2 (i + 1))).1), q_u] [] h3 := by
    refine q_goto 2985 dL_law_933 (by decide) ?_
    refine q_forget 6 ?_
    refine q_forget 7 ?_
    change q_W _ _ _ _ _ _ _ _ 2985 [.ref 0, .ref 100, .ref 215, .ref 223, .ref 224, .int (nI i), q_u, q_u, q_u] [] h3
    exact q_widen (by omega) (by omega) (K h3 ⟨_, _, _, _, _, _, _, _, _, _, _, _, _, _, _, _, _, _, _, _, _, _, w1.keep (q3.wide (by omega) (by omega)), ⟨_, ⟨_, _, _, _, _, _, _, _, _, m3⟩⟩, ⟨_, (q3.2 _ (by omega) (by omega)).trans c223b⟩, ⟨_, (q3.2 _ (by omega) (by omega)).trans c224b⟩, J2⟩)
  refine q_if_ne 933 dL_law_918 (by decide) (fun _ => fin) (fun b => ?_)
  have eo9 : (q_oI ((x_am_pass s nx kp rw (g.2.2.2.2.2.2 (i + 1))).1)) = .inl (some (.int ((x_mo_pass al cg rs bf s.1 (g.2.2.2.2.2.2 (i + 1))).1))) := by
    rcases ag with ⟨et, eo⟩ | ⟨et, eo⟩
    · exact absurd (et.symm.trans b) (by decide)
    · exact eo
  have ev := hf2 _ eo9
  refine q_aload_n (by first | assumption | (rw [q_R0e]; omega)) dL_law_921 rfl ?_
  refine q_iconst (v := 0) dL_law_922 rfl ?_
  refine q_lald (f := f2) dL_law_923 ((q3.2 _ (by omega) (by omega)).trans c223b) (vp_in_nI (n := 0) (N := 1) (by decide) (by decide)) ?_
  change q_W _ _ _ _ _ _ _ _ _ _ [.long (f2 0)] _
  rw [ev]
  refine q_iload dL_law_924 rfl ?_
  refine q_i2l dL_law_926 rfl ?_
  refine q_lcmp dL_law_927 ?_
  rw [z_lcmp]
  exact q_if_eq 933 dL_law_928 (by decide) (fun _ => fin) (fun b => absurd rfl b)
set_option maxRecDepth 100000 in
set_option maxHeartbeats 4000000 in
theorem l_c_day {g : q_G} {h : q_H} {d mc ms kc ks i t : Nat} {Q : q_O → q_H → Prop} (hP : z_P_day) (hI : z_I t h) (ht : t < 512) (hi : i + 2 < g.2.2.2.2.2.1) (hN : g.2.2.2.2.2.1 < 2 ^ 31) (ho : q_isold g 0) (hd : 26 ≤ d) (hkc : kc + 66 ≤ mc) (hks : ks + 10588 ≤ ms) (K : ∀ h2, z_I (t + 1) h2 → q_W g mL_law d mc ms Q (kc + 66) (ks + 10588) 2985 [.ref 0, .ref 100, .ref 215, .ref 223, .ref 224, .int (nI i), q_u, q_u, q_u] [] h2) : q_W g mL_law d mc ms Q kc ks 936 [.ref 0, .ref 100, .ref 215, .ref 223, .ref 224, .int (nI i), q_u, q_u, q_u] [] h := by
  obtain ⟨hs, se, sf, s, s1, nx, kp, rw, ic, fi, lc, fl, al, cg, sv, ad, ln, lz, ip, ty, ea, fa, wc, ⟨th, wm⟩, ⟨f, c223⟩, ⟨fd, c224⟩, J⟩ := hI
  obtain ⟨s2, ca, cj, co, won, lost, pf, cv, sc, pc, pp, po, vb, oa, ob, w⟩ := wc
  obtain ⟨rs, ac, rj, ro, bf, he, er, cm, cn, m⟩ := wm
  obtain ⟨e0, hn, e3, hm⟩ := J.n0
  obtain ⟨ag, J2⟩ := hP t hs se sf s s1 nx kp rw ic fi lc fl al cg sv ad ln lz ip ty ea fa   ht J
  refine q_aload_n (by first | assumption | (rw [q_R0e]; omega)) dL_law_936 rfl ?_
  refine q_invV (mc' := 0) (ms' := 0) (d' := d - 1) (as := []) dL_law_937 kM_X10_day kL_L_201 kI_X10_day kS_X10_day rfl (kC_X10.1) w.1.c0 rfl rfl (Nat.le_of_ble_eq_true rfl) (by omega) (by decide) (by omega) (by omega) (c_day (g := g) (h := h) (d := d - 1) w (by omega)) (q_kC (fun h1 hB => ?_)) q_xC
  obtain ⟨w1, q1⟩ := hB
  have hz : 225 ≤ h.1 := w.2.2.2.2.2.2.2.2.2.s0
  have hz0 : h.1 ≤ h1.1 := q1.1
  have m1 := m.keepI (h1 := h1) q1.1 (fun j b1 b2 => q1.2 j (by omega) (by omega))
  have c223b := (q1.2 _ (by omega) (by omega)).trans c223
  have c224b := (q1.2 _ (by omega) (by omega)).trans c224
  change q_W _ _ _ _ _ _ _ _ 940 [.ref 0, .ref 100, .ref 215, .ref 223, .ref 224, .int (nI i), q_u, q_u, q_u] [.int ((x_am_day s.2.2.2.2.2.2.2.1))] h1
  rw [ag]
  refine q_aload_n (by first | assumption | (rw [q_R0e]; omega)) dL_law_940 rfl ?_
  refine q_invV (mc' := 0) (ms' := 0) (d' := d - 1) (as := []) dL_law_941 kM_X11_day kL_L_204 kI_X11_day kS_X11_day rfl (kC_X11.1) m1.c0 rfl rfl (Nat.le_of_ble_eq_true rfl) (by omega) (by decide) (by omega) (by omega) (r_day (g := g) (d := d - 1) m1 e0 hn e3 hm (by omega)) (q_kC (fun h3 hB3 => ?_)) q_xC
  obtain ⟨m3, q3⟩ := hB3
  change q_W _ _ _ _ _ _ _ _ 944 [.ref 0, .ref 100, .ref 215, .ref 223, .ref 224, .int (nI i), q_u, q_u, q_u] [.int ((x_mo_day al).1), .int ((x_mo_day al).1)] h3
  refine q_icmp_eq 2985 dL_law_944 (by decide) (fun _ => ?_) (fun b => absurd rfl b)
  exact q_widen (by omega) (by omega) (K h3 ⟨_, _, _, _, _, _, _, _, _, _, _, _, _, _, _, _, _, _, _, _, _, _, w1.keep (q3.wide (by omega) (by omega)), ⟨_, m3⟩, ⟨_, (q3.2 _ (by omega) (by omega)).trans c223b⟩, ⟨_, (q3.2 _ (by omega) (by omega)).trans c224b⟩, J2⟩)
set_option maxRecDepth 100000 in
set_option maxHeartbeats 4000000 in
theorem l_c_argumentCount {g : q_G} {h : q_H} {d mc ms kc ks i t : Nat} {Q : q_O → q_H → Prop} (hP : z_P_argumentCount) (hI : z_I t h) (ht : t < 512) (hi : i + 2 < g.2.2.2.2.2.1) (hN : g.2.2.2.2.2.1 < 2 ^ 31) (ho : q_isold g 0) (hd : 26 ≤ d) (hkc : kc + 66 ≤ mc) (hks : ks + 10588 ≤ ms) (K : ∀ h2, z_I (t + 1) h2 → q_W g mL_law d mc ms Q (kc + 66) (ks + 10588) 2985 [.ref 0, .ref 100, .ref 215, .ref 223, .ref 224, .int (nI i), q_u, q_u, q_u] [] h2) : q_W g mL_law d mc ms Q kc ks 949 [.ref 0, .ref 100, .ref 215, .ref 223, .ref 224, .int (nI i), q_u, q_u, q_u] [] h := by
  obtain ⟨hs, se, sf, s, s1, nx, kp, rw, ic, fi, lc, fl, al, cg, sv, ad, ln, lz, ip, ty, ea, fa, wc, ⟨th, wm⟩, ⟨f, c223⟩, ⟨fd, c224⟩, J⟩ := hI
  obtain ⟨s2, ca, cj, co, won, lost, pf, cv, sc, pc, pp, po, vb, oa, ob, w⟩ := wc
  obtain ⟨rs, ac, rj, ro, bf, he, er, cm, cn, m⟩ := wm
  obtain ⟨e0, hn, e3, hm⟩ := J.n0
  obtain ⟨ag, J2⟩ := hP t hs se sf s s1 nx kp rw ic fi lc fl al cg sv ad ln lz ip ty ea fa   ht J
  refine q_aload_n (by first | assumption | (rw [q_R0e]; omega)) dL_law_949 rfl ?_
  refine q_invV (mc' := 0) (ms' := 0) (d' := d - 1) (as := []) dL_law_950 kM_X10_argumentCount kL_L_205 kI_X10_argumentCount kS_X10_argumentCount rfl (kC_X10.1) w.1.c0 rfl rfl (Nat.le_of_ble_eq_true rfl) (by omega) (by decide) (by omega) (by omega) (c_argumentCount (g := g) (h := h) (d := d - 1) w (by omega)) (q_kC (fun h1 hB => ?_)) q_xC
  obtain ⟨w1, q1⟩ := hB
  have hz : 225 ≤ h.1 := w.2.2.2.2.2.2.2.2.2.s0
  have hz0 : h.1 ≤ h1.1 := q1.1
  have m1 := m.keepI (h1 := h1) q1.1 (fun j b1 b2 => q1.2 j (by omega) (by omega))
  have c223b := (q1.2 _ (by omega) (by omega)).trans c223
  have c224b := (q1.2 _ (by omega) (by omega)).trans c224
  change q_W _ _ _ _ _ _ _ _ 953 [.ref 0, .ref 100, .ref 215, .ref 223, .ref 224, .int (nI i), q_u, q_u, q_u] [.int ((x_am_argumentCount s.1))] h1
  rw [ag]
  refine q_aload_n (by first | assumption | (rw [q_R0e]; omega)) dL_law_953 rfl ?_
  refine q_invV (mc' := 0) (ms' := 0) (d' := d - 1) (as := []) dL_law_954 kM_X11_argumentCount kL_L_208 kI_X11_argumentCount kS_X11_argumentCount rfl (kC_X11.1) m1.c0 rfl rfl (Nat.le_of_ble_eq_true rfl) (by omega) (by decide) (by omega) (by omega) (r_argumentCount (g := g) (d := d - 1) m1 e0 hn e3 hm (by omega)) (q_kC (fun h3 hB3 => ?_)) q_xC
  obtain ⟨m3, q3⟩ := hB3
  change q_W _ _ _ _ _ _ _ _ 957 [.ref 0, .ref 100, .ref 215, .ref 223, .ref 224, .int (nI i), q_u, q_u, q_u] [.int ((x_mo_argumentCount al).1), .int ((x_mo_argumentCount al).1)] h3
  refine q_icmp_eq 2985 dL_law_957 (by decide) (fun _ => ?_) (fun b => absurd rfl b)
  exact q_widen (by omega) (by omega) (K h3 ⟨_, _, _, _, _, _, _, _, _, _, _, _, _, _, _, _, _, _, _, _, _, _, w1.keep (q3.wide (by omega) (by omega)), ⟨_, m3⟩, ⟨_, (q3.2 _ (by omega) (by omega)).trans c223b⟩, ⟨_, (q3.2 _ (by omega) (by omega)).trans c224b⟩, J2⟩)
set_option maxRecDepth 100000 in
set_option maxHeartbeats 4000000 in
theorem l_c_idAt {g : q_G} {h : q_H} {d mc ms kc ks i t : Nat} {Q : q_O → q_H → Prop} (hP : z_P_idAt) (hI : z_I t h) (ht : t < 512) (hi : i + 2 < g.2.2.2.2.2.1) (hN : g.2.2.2.2.2.1 < 2 ^ 31) (ho : q_isold g 0) (hd : 26 ≤ d) (hkc : kc + 66 ≤ mc) (hks : ks + 10588 ≤ ms) (K : ∀ h2, z_I (t + 1) h2 → q_W g mL_law d mc ms Q (kc + 66) (ks + 10588) 2985 [.ref 0, .ref 100, .ref 215, .ref 223, .ref 224, .int (nI i), q_u, q_u, q_u] [] h2) : q_W g mL_law d mc ms Q kc ks 962 [.ref 0, .ref 100, .ref 215, .ref 223, .ref 224, .int (nI i), q_u, q_u, q_u] [] h := by
  obtain ⟨hs, se, sf, s, s1, nx, kp, rw, ic, fi, lc, fl, al, cg, sv, ad, ln, lz, ip, ty, ea, fa, wc, ⟨th, wm⟩, ⟨f, c223⟩, ⟨fd, c224⟩, J⟩ := hI
  obtain ⟨s2, ca, cj, co, won, lost, pf, cv, sc, pc, pp, po, vb, oa, ob, w⟩ := wc
  obtain ⟨rs, ac, rj, ro, bf, he, er, cm, cn, m⟩ := wm
  obtain ⟨e0, hn, e3, hm⟩ := J.n0
  obtain ⟨ag, J2⟩ := hP t hs se sf s s1 nx kp rw ic fi lc fl al cg sv ad ln lz ip ty ea fa  (g.2.2.2.2.2.2 (i + 1)) ht J
  refine q_aload_n (by first | assumption | (rw [q_R0e]; omega)) dL_law_962 rfl ?_
  refine q_aload_nO ho dL_law_963 rfl ?_
  refine q_iload dL_law_964 rfl ?_
  refine q_iconst (v := 1) dL_law_966 rfl ?_
  refine q_iaddN (a := i) (b := 1) dL_law_967 ?_
  refine q_taldIN (by decide) dL_law_968 (rfl : q_ar g 0 = _) (by omega) hN ?_
  change q_W _ _ _ _ _ _ _ _ _ _ [.int (g.2.2.2.2.2.2 (i + 1)), .ref 100] _
  refine q_aload_n (by first | assumption | (rw [q_R0e]; omega)) dL_law_969 rfl ?_
  have ho9 : (∃ v, (q_oI ((x_am_idAt s.1 s.2.1 (g.2.2.2.2.2.2 (i + 1))))) = .inl (some (.int v))) ∨ (q_oI ((x_am_idAt s.1 s.2.1 (g.2.2.2.2.2.2 (i + 1))))) = .inr "java/lang/IndexOutOfBoundsException" := by
    rcases ag with ⟨et, eo⟩ | ⟨et, eo⟩
    · exact Or.inr (eo)
    · exact Or.inl ⟨_, eo⟩
  have hcd : z_cd [("java/lang/IndexOutOfBoundsException", 1)] (q_oI ((x_am_idAt s.1 s.2.1 (g.2.2.2.2.2.2 (i + 1))))) = (x_mo_idAt al s.1 (g.2.2.2.2.2.2 (i + 1))).2 := by
    rcases ag with ⟨et, eo⟩ | ⟨et, eo⟩
    · rw [et, eo]; rfl
    · rw [et, eo]; rfl
  have hB9 : ∀ h1, (z_C h1 hs se sf s s1 nx kp rw ic fi lc fl ∧ q_zone h h1 100 115) → h1.2 223 = some (.inl (4, 1, .inr (.inl f))) := fun h1 hb => (hb.2.2 _ (by omega) (by omega)).trans c223
  refine q_invSH (mc' := 1) (ms' := 6) (d' := d - 1) (as := [.ref 100, .int ((g.2.2.2.2.2.2 (i + 1))), .ref 223]) dL_law_970 kM_L_idAt kL_L_209 kT_L_idAt rfl rfl rfl (Nat.le_of_ble_eq_true rfl) (by omega) (by decide) (by omega) (by omega) (e_L_idAt (d := d - 1) (dd := d - 2) w.1.c0 hB9 ho9 (c_idAt (g := g) (h := h) (d := d - 2) w (g.2.2.2.2.2.2 (i + 1)) (by omega)) (by omega)) (q_kC (fun h1 hB => ?_)) q_xC
  obtain ⟨h0, ⟨wc1, q1⟩, e9⟩ := hB
  obtain ⟨f2, c223b, hf2⟩ := z_outL_c (o := q_oI ((x_am_idAt s.1 s.2.1 (g.2.2.2.2.2.2 (i + 1))))) (hB9 h0 ⟨wc1, q1⟩)
  have qs : q_same h0 h1 223 1 := e9 ▸ z_outL_same
  rw [← e9] at c223b
  clear e9
  have hz : 225 ≤ h.1 := w.2.2.2.2.2.2.2.2.2.s0
  have hz0 : h.1 ≤ h0.1 := q1.1
  have c224b : h1.2 224 = _ := (qs.2 _ (by omega) (by omega)).trans ((q1.2 _ (by omega) (by omega)).trans c224)
  have w1 := wc1.keep (qs.wide (by omega) (by omega))
  have m1 := m.keepI (h1 := h1) (Nat.le_trans q1.1 qs.1) (fun j b1 b2 => (qs.2 j (by omega) (by omega)).trans (q1.2 j (by omega) (by omega)))
  clear wc1 hB9 ho9 m
  change q_W _ _ _ _ _ _ _ _ 973 [.ref 0, .ref 100, .ref 215, .ref 223, .ref 224, .int (nI i), q_u, q_u, q_u] [.int (z_cd [("java/lang/IndexOutOfBoundsException", 1)] (q_oI ((x_am_idAt s.1 s.2.1 (g.2.2.2.2.2.2 (i + 1))))))] h1
  rw [hcd]
  refine q_istore dL_law_973 (by decide) rfl ?_
  change q_W _ _ _ _ _ _ _ _ 975 [.ref 0, .ref 100, .ref 215, .ref 223, .ref 224, .int (nI i), .int ((x_mo_idAt al s.1 (g.2.2.2.2.2.2 (i + 1))).2), q_u, q_u] [] h1
  refine q_aload_n (by first | assumption | (rw [q_R0e]; omega)) dL_law_975 rfl ?_
  refine q_aload_nO ho dL_law_976 rfl ?_
  refine q_iload dL_law_977 rfl ?_
  refine q_iconst (v := 1) dL_law_979 rfl ?_
  refine q_iaddN (a := i) (b := 1) dL_law_980 ?_
  refine q_taldIN (by decide) dL_law_981 (rfl : q_ar g 0 = _) (by omega) hN ?_
  change q_W _ _ _ _ _ _ _ _ _ _ [.int (g.2.2.2.2.2.2 (i + 1)), .ref 215] _
  refine q_invV (mc' := 0) (ms' := 0) (d' := d - 1) (as := [.int ((g.2.2.2.2.2.2 (i + 1)))]) dL_law_982 kM_X11_idAt kL_L_211 kI_X11_idAt kS_X11_idAt rfl (kC_X11.1) m1.c0 rfl rfl (Nat.le_of_ble_eq_true rfl) (by omega) (by decide) (by omega) (by omega) (r_idAt (g := g) (d := d - 1) m1 e0 hn e3 hm (g.2.2.2.2.2.2 (i + 1)) (by omega)) (q_kC (fun h3 hB3 => ?_)) q_xC
  obtain ⟨m3, q3⟩ := hB3
  obtain ⟨rs3, ac3, rj3, ro3, bf3, he3, er3, cm3, cn3, m3⟩ := m3
  change q_W _ _ _ _ _ _ _ _ 985 [.ref 0, .ref 100, .ref 215, .ref 223, .ref 224, .int (nI i), .int ((x_mo_idAt al s.1 (g.2.2.2.2.2.2 (i + 1))).2), q_u, q_u] [.int ((x_mo_idAt al s.1 (g.2.2.2.2.2.2 (i + 1))).1)] h3
  refine q_istore dL_law_985 (by decide) rfl ?_
  change q_W _ _ _ _ _ _ _ _ 987 [.ref 0, .ref 100, .ref 215, .ref 223, .ref 224, .int (nI i), .int ((x_mo_idAt al s.1 (g.2.2.2.2.2.2 (i + 1))).2), .int ((x_mo_idAt al s.1 (g.2.2.2.2.2.2 (i + 1))).1), q_u] [] h3
  refine q_aload_n (by first | assumption | (rw [q_R0e]; omega)) dL_law_987 rfl ?_
  refine q_invV (mc' := 0) (ms' := 0) (d' := d - 1) (as := []) dL_law_988 kM_X11_thrown kL_L_166 kI_X11_thrown kS_X11_thrown rfl (kC_X11.1) m3.c0 rfl rfl (Nat.le_of_ble_eq_true rfl) (by omega) (by decide) (by omega) (by omega) (e_mo_thrownR (d := d - 1) m3 (by omega)) (q_kR ?_) q_xR
  change q_W _ _ _ _ _ _ _ _ 991 [.ref 0, .ref 100, .ref 215, .ref 223, .ref 224, .int (nI i), .int ((x_mo_idAt al s.1 (g.2.2.2.2.2.2 (i + 1))).2), .int ((x_mo_idAt al s.1 (g.2.2.2.2.2.2 (i + 1))).1), q_u] [.int ((x_mo_idAt al s.1 (g.2.2.2.2.2.2 (i + 1))).2)] h3
  refine q_iload dL_law_991 rfl ?_
  refine q_icmp_eq 998 dL_law_993 (by decide) (fun _ => ?_) (fun b => absurd rfl b)
  refine q_iload dL_law_998 rfl ?_
  have hz3 : h1.1 ≤ h3.1 := q3.1
  have hz4 : h0.1 ≤ h1.1 := qs.1
  have fin : q_W g mL_law d mc ms Q (kc + 1) (ks + 6) 1015 [.ref 0, .ref 100, .ref 215, .ref 223, .ref 224, .int (nI i), .int ((x_mo_idAt al s.1 (g.2.2.2.2.2.2 (i + 1))).2), .int ((x_mo_idAt al s.1 (g.2.2.2.2.2.2 (i + 1))).1), q_u] [] h3 := by
    refine q_goto 2985 dL_law_1015 (by decide) ?_
    refine q_forget 6 ?_
    refine q_forget 7 ?_
    change q_W _ _ _ _ _ _ _ _ 2985 [.ref 0, .ref 100, .ref 215, .ref 223, .ref 224, .int (nI i), q_u, q_u, q_u] [] h3
    exact q_widen (by omega) (by omega) (K h3 ⟨_, _, _, _, _, _, _, _, _, _, _, _, _, _, _, _, _, _, _, _, _, _, w1.keep (q3.wide (by omega) (by omega)), ⟨_, ⟨_, _, _, _, _, _, _, _, _, m3⟩⟩, ⟨_, (q3.2 _ (by omega) (by omega)).trans c223b⟩, ⟨_, (q3.2 _ (by omega) (by omega)).trans c224b⟩, J2⟩)
  refine q_if_ne 1015 dL_law_1000 (by decide) (fun _ => fin) (fun b => ?_)
  have eo9 : (q_oI ((x_am_idAt s.1 s.2.1 (g.2.2.2.2.2.2 (i + 1))))) = .inl (some (.int ((x_mo_idAt al s.1 (g.2.2.2.2.2.2 (i + 1))).1))) := by
    rcases ag with ⟨et, eo⟩ | ⟨et, eo⟩
    · exact absurd (et.symm.trans b) (by decide)
    · exact eo
  have ev := hf2 _ eo9
  refine q_aload_n (by first | assumption | (rw [q_R0e]; omega)) dL_law_1003 rfl ?_
  refine q_iconst (v := 0) dL_law_1004 rfl ?_
  refine q_lald (f := f2) dL_law_1005 ((q3.2 _ (by omega) (by omega)).trans c223b) (vp_in_nI (n := 0) (N := 1) (by decide) (by decide)) ?_
  change q_W _ _ _ _ _ _ _ _ _ _ [.long (f2 0)] _
  rw [ev]
  refine q_iload dL_law_1006 rfl ?_
  refine q_i2l dL_law_1008 rfl ?_
  refine q_lcmp dL_law_1009 ?_
  rw [z_lcmp]
  exact q_if_eq 1015 dL_law_1010 (by decide) (fun _ => fin) (fun b => absurd rfl b)
set_option maxRecDepth 100000 in
set_option maxHeartbeats 4000000 in
theorem l_c_weightOf {g : q_G} {h : q_H} {d mc ms kc ks i t : Nat} {Q : q_O → q_H → Prop} (hP : z_P_weightOf) (hI : z_I t h) (ht : t < 512) (hi : i + 2 < g.2.2.2.2.2.1) (hN : g.2.2.2.2.2.1 < 2 ^ 31) (ho : q_isold g 0) (hd : 26 ≤ d) (hkc : kc + 66 ≤ mc) (hks : ks + 10588 ≤ ms) (K : ∀ h2, z_I (t + 1) h2 → q_W g mL_law d mc ms Q (kc + 66) (ks + 10588) 2985 [.ref 0, .ref 100, .ref 215, .ref 223, .ref 224, .int (nI i), q_u, q_u, q_u] [] h2) : q_W g mL_law d mc ms Q kc ks 1018 [.ref 0, .ref 100, .ref 215, .ref 223, .ref 224, .int (nI i), q_u, q_u, q_u] [] h := by
  obtain ⟨hs, se, sf, s, s1, nx, kp, rw, ic, fi, lc, fl, al, cg, sv, ad, ln, lz, ip, ty, ea, fa, wc, ⟨th, wm⟩, ⟨f, c223⟩, ⟨fd, c224⟩, J⟩ := hI
  obtain ⟨s2, ca, cj, co, won, lost, pf, cv, sc, pc, pp, po, vb, oa, ob, w⟩ := wc
  obtain ⟨rs, ac, rj, ro, bf, he, er, cm, cn, m⟩ := wm
  obtain ⟨e0, hn, e3, hm⟩ := J.n0
  obtain ⟨ag, J2⟩ := hP t hs se sf s s1 nx kp rw ic fi lc fl al cg sv ad ln lz ip ty ea fa  (g.2.2.2.2.2.2 (i + 1)) ht J
  refine q_aload_n (by first | assumption | (rw [q_R0e]; omega)) dL_law_1018 rfl ?_
  refine q_aload_nO ho dL_law_1019 rfl ?_
  refine q_iload dL_law_1020 rfl ?_
  refine q_iconst (v := 1) dL_law_1022 rfl ?_
  refine q_iaddN (a := i) (b := 1) dL_law_1023 ?_
  refine q_taldIN (by decide) dL_law_1024 (rfl : q_ar g 0 = _) (by omega) hN ?_
  change q_W _ _ _ _ _ _ _ _ _ _ [.int (g.2.2.2.2.2.2 (i + 1)), .ref 100] _
  refine q_aload_n (by first | assumption | (rw [q_R0e]; omega)) dL_law_1025 rfl ?_
  have ho9 : (∃ v, (q_oI ((x_am_weightOf s.1 s.2.1 s.2.2.1 (g.2.2.2.2.2.2 (i + 1))))) = .inl (some (.int v))) ∨ (q_oI ((x_am_weightOf s.1 s.2.1 s.2.2.1 (g.2.2.2.2.2.2 (i + 1))))) = .inr "java/util/NoSuchElementException" := by
    rcases ag with ⟨et, eo⟩ | ⟨et, eo⟩
    · exact Or.inr (eo)
    · exact Or.inl ⟨_, eo⟩
  have hcd : z_cd [("java/util/NoSuchElementException", 1)] (q_oI ((x_am_weightOf s.1 s.2.1 s.2.2.1 (g.2.2.2.2.2.2 (i + 1))))) = (x_mo_weightOf al s.1 (g.2.2.2.2.2.2 (i + 1))).2 := by
    rcases ag with ⟨et, eo⟩ | ⟨et, eo⟩
    · rw [et, eo]; rfl
    · rw [et, eo]; rfl
  have hB9 : ∀ h1, (z_C h1 hs se sf s s1 nx kp rw ic fi lc fl ∧ q_zone h h1 100 115) → h1.2 223 = some (.inl (4, 1, .inr (.inl f))) := fun h1 hb => (hb.2.2 _ (by omega) (by omega)).trans c223
  refine q_invSH (mc' := 1) (ms' := 6) (d' := d - 1) (as := [.ref 100, .int ((g.2.2.2.2.2.2 (i + 1))), .ref 223]) dL_law_1026 kM_L_weightOf kL_L_212 kT_L_weightOf rfl rfl rfl (Nat.le_of_ble_eq_true rfl) (by omega) (by decide) (by omega) (by omega) (e_L_weightOf (d := d - 1) (dd := d - 2) w.1.c0 hB9 ho9 (c_weightOf (g := g) (h := h) (d := d - 2) w (g.2.2.2.2.2.2 (i + 1)) (by omega)) (by omega)) (q_kC (fun h1 hB => ?_)) q_xC
  obtain ⟨h0, ⟨wc1, q1⟩, e9⟩ := hB
  obtain ⟨f2, c223b, hf2⟩ := z_outL_c (o := q_oI ((x_am_weightOf s.1 s.2.1 s.2.2.1 (g.2.2.2.2.2.2 (i + 1))))) (hB9 h0 ⟨wc1, q1⟩)
  have qs : q_same h0 h1 223 1 := e9 ▸ z_outL_same
  rw [← e9] at c223b
  clear e9
  have hz : 225 ≤ h.1 := w.2.2.2.2.2.2.2.2.2.s0
  have hz0 : h.1 ≤ h0.1 := q1.1
  have c224b : h1.2 224 = _ := (qs.2 _ (by omega) (by omega)).trans ((q1.2 _ (by omega) (by omega)).trans c224)
  have w1 := wc1.keep (qs.wide (by omega) (by omega))
  have m1 := m.keepI (h1 := h1) (Nat.le_trans q1.1 qs.1) (fun j b1 b2 => (qs.2 j (by omega) (by omega)).trans (q1.2 j (by omega) (by omega)))
  clear wc1 hB9 ho9 m
  change q_W _ _ _ _ _ _ _ _ 1029 [.ref 0, .ref 100, .ref 215, .ref 223, .ref 224, .int (nI i), q_u, q_u, q_u] [.int (z_cd [("java/util/NoSuchElementException", 1)] (q_oI ((x_am_weightOf s.1 s.2.1 s.2.2.1 (g.2.2.2.2.2.2 (i + 1))))))] h1
  rw [hcd]
  refine q_istore dL_law_1029 (by decide) rfl ?_
  change q_W _ _ _ _ _ _ _ _ 1031 [.ref 0, .ref 100, .ref 215, .ref 223, .ref 224, .int (nI i), .int ((x_mo_weightOf al s.1 (g.2.2.2.2.2.2 (i + 1))).2), q_u, q_u] [] h1
  refine q_aload_n (by first | assumption | (rw [q_R0e]; omega)) dL_law_1031 rfl ?_
  refine q_aload_nO ho dL_law_1032 rfl ?_
  refine q_iload dL_law_1033 rfl ?_
  refine q_iconst (v := 1) dL_law_1035 rfl ?_
  refine q_iaddN (a := i) (b := 1) dL_law_1036 ?_
  refine q_taldIN (by decide) dL_law_1037 (rfl : q_ar g 0 = _) (by omega) hN ?_
  change q_W _ _ _ _ _ _ _ _ _ _ [.int (g.2.2.2.2.2.2 (i + 1)), .ref 215] _
  refine q_invV (mc' := 0) (ms' := 0) (d' := d - 1) (as := [.int ((g.2.2.2.2.2.2 (i + 1)))]) dL_law_1038 kM_X11_weightOf kL_L_214 kI_X11_weightOf kS_X11_weightOf rfl (kC_X11.1) m1.c0 rfl rfl (Nat.le_of_ble_eq_true rfl) (by omega) (by decide) (by omega) (by omega) (r_weightOf (g := g) (d := d - 1) m1 e0 hn e3 hm (g.2.2.2.2.2.2 (i + 1)) (by omega)) (q_kC (fun h3 hB3 => ?_)) q_xC
  obtain ⟨m3, q3⟩ := hB3
  obtain ⟨rs3, ac3, rj3, ro3, bf3, he3, er3, cm3, cn3, m3⟩ := m3
  change q_W _ _ _ _ _ _ _ _ 1041 [.ref 0, .ref 100, .ref 215, .ref 223, .ref 224, .int (nI i), .int ((x_mo_weightOf al s.1 (g.2.2.2.2.2.2 (i + 1))).2), q_u, q_u] [.int ((x_mo_weightOf al s.1 (g.2.2.2.2.2.2 (i + 1))).1)] h3
  refine q_istore dL_law_1041 (by decide) rfl ?_
  change q_W _ _ _ _ _ _ _ _ 1043 [.ref 0, .ref 100, .ref 215, .ref 223, .ref 224, .int (nI i), .int ((x_mo_weightOf al s.1 (g.2.2.2.2.2.2 (i + 1))).2), .int ((x_mo_weightOf al s.1 (g.2.2.2.2.2.2 (i + 1))).1), q_u] [] h3
  refine q_aload_n (by first | assumption | (rw [q_R0e]; omega)) dL_law_1043 rfl ?_
  refine q_invV (mc' := 0) (ms' := 0) (d' := d - 1) (as := []) dL_law_1044 kM_X11_thrown kL_L_166 kI_X11_thrown kS_X11_thrown rfl (kC_X11.1) m3.c0 rfl rfl (Nat.le_of_ble_eq_true rfl) (by omega) (by decide) (by omega) (by omega) (e_mo_thrownR (d := d - 1) m3 (by omega)) (q_kR ?_) q_xR
  change q_W _ _ _ _ _ _ _ _ 1047 [.ref 0, .ref 100, .ref 215, .ref 223, .ref 224, .int (nI i), .int ((x_mo_weightOf al s.1 (g.2.2.2.2.2.2 (i + 1))).2), .int ((x_mo_weightOf al s.1 (g.2.2.2.2.2.2 (i + 1))).1), q_u] [.int ((x_mo_weightOf al s.1 (g.2.2.2.2.2.2 (i + 1))).2)] h3
  refine q_iload dL_law_1047 rfl ?_
  refine q_icmp_eq 1054 dL_law_1049 (by decide) (fun _ => ?_) (fun b => absurd rfl b)
  refine q_iload dL_law_1054 rfl ?_
  have hz3 : h1.1 ≤ h3.1 := q3.1
  have hz4 : h0.1 ≤ h1.1 := qs.1
  have fin : q_W g mL_law d mc ms Q (kc + 1) (ks + 6) 1071 [.ref 0, .ref 100, .ref 215, .ref 223, .ref 224, .int (nI i), .int ((x_mo_weightOf al s.1 (g.2.2.2.2.2.2 (i + 1))).2), .int ((x_mo_weightOf al s.1 (g.2.2.2.2.2.2 (i + 1))).1), q_u] [] h3 := by
    refine q_goto 2985 dL_law_1071 (by decide) ?_
    refine q_forget 6 ?_
    refine q_forget 7 ?_
    change q_W _ _ _ _ _ _ _ _ 2985 [.ref 0, .ref 100, .ref 215, .ref 223, .ref 224, .int (nI i), q_u, q_u, q_u] [] h3
    exact q_widen (by omega) (by omega) (K h3 ⟨_, _, _, _, _, _, _, _, _, _, _, _, _, _, _, _, _, _, _, _, _, _, w1.keep (q3.wide (by omega) (by omega)), ⟨_, ⟨_, _, _, _, _, _, _, _, _, m3⟩⟩, ⟨_, (q3.2 _ (by omega) (by omega)).trans c223b⟩, ⟨_, (q3.2 _ (by omega) (by omega)).trans c224b⟩, J2⟩)
  refine q_if_ne 1071 dL_law_1056 (by decide) (fun _ => fin) (fun b => ?_)
  have eo9 : (q_oI ((x_am_weightOf s.1 s.2.1 s.2.2.1 (g.2.2.2.2.2.2 (i + 1))))) = .inl (some (.int ((x_mo_weightOf al s.1 (g.2.2.2.2.2.2 (i + 1))).1))) := by
    rcases ag with ⟨et, eo⟩ | ⟨et, eo⟩
    · exact absurd (et.symm.trans b) (by decide)
    · exact eo
  have ev := hf2 _ eo9
  refine q_aload_n (by first | assumption | (rw [q_R0e]; omega)) dL_law_1059 rfl ?_
  refine q_iconst (v := 0) dL_law_1060 rfl ?_
  refine q_lald (f := f2) dL_law_1061 ((q3.2 _ (by omega) (by omega)).trans c223b) (vp_in_nI (n := 0) (N := 1) (by decide) (by decide)) ?_
  change q_W _ _ _ _ _ _ _ _ _ _ [.long (f2 0)] _
  rw [ev]
  refine q_iload dL_law_1062 rfl ?_
  refine q_i2l dL_law_1064 rfl ?_
  refine q_lcmp dL_law_1065 ?_
  rw [z_lcmp]
  exact q_if_eq 1071 dL_law_1066 (by decide) (fun _ => fin) (fun b => absurd rfl b)
set_option maxRecDepth 100000 in
set_option maxHeartbeats 4000000 in
theorem l_c_ageOf {g : q_G} {h : q_H} {d mc ms kc ks i t : Nat} {Q : q_O → q_H → Prop} (hP : z_P_ageOf) (hI : z_I t h) (ht : t < 512) (hi : i + 2 < g.2.2.2.2.2.1) (hN : g.2.2.2.2.2.1 < 2 ^ 31) (ho : q_isold g 0) (hd : 26 ≤ d) (hkc : kc + 66 ≤ mc) (hks : ks + 10588 ≤ ms) (K : ∀ h2, z_I (t + 1) h2 → q_W g mL_law d mc ms Q (kc + 66) (ks + 10588) 2985 [.ref 0, .ref 100, .ref 215, .ref 223, .ref 224, .int (nI i), q_u, q_u, q_u] [] h2) : q_W g mL_law d mc ms Q kc ks 1074 [.ref 0, .ref 100, .ref 215, .ref 223, .ref 224, .int (nI i), q_u, q_u, q_u] [] h := by
  obtain ⟨hs, se, sf, s, s1, nx, kp, rw, ic, fi, lc, fl, al, cg, sv, ad, ln, lz, ip, ty, ea, fa, wc, ⟨th, wm⟩, ⟨f, c223⟩, ⟨fd, c224⟩, J⟩ := hI
  obtain ⟨s2, ca, cj, co, won, lost, pf, cv, sc, pc, pp, po, vb, oa, ob, w⟩ := wc
  obtain ⟨rs, ac, rj, ro, bf, he, er, cm, cn, m⟩ := wm
  obtain ⟨e0, hn, e3, hm⟩ := J.n0
  obtain ⟨ag, J2⟩ := hP t hs se sf s s1 nx kp rw ic fi lc fl al cg sv ad ln lz ip ty ea fa  (g.2.2.2.2.2.2 (i + 1)) ht J
  refine q_aload_n (by first | assumption | (rw [q_R0e]; omega)) dL_law_1074 rfl ?_
  refine q_aload_nO ho dL_law_1075 rfl ?_
  refine q_iload dL_law_1076 rfl ?_
  refine q_iconst (v := 1) dL_law_1078 rfl ?_
  refine q_iaddN (a := i) (b := 1) dL_law_1079 ?_
  refine q_taldIN (by decide) dL_law_1080 (rfl : q_ar g 0 = _) (by omega) hN ?_
  change q_W _ _ _ _ _ _ _ _ _ _ [.int (g.2.2.2.2.2.2 (i + 1)), .ref 100] _
  refine q_aload_n (by first | assumption | (rw [q_R0e]; omega)) dL_law_1081 rfl ?_
  have ho9 : (∃ v, (q_oI ((x_am_ageOf s.1 s.2.1 s.2.2.2.1 (g.2.2.2.2.2.2 (i + 1))))) = .inl (some (.int v))) ∨ (q_oI ((x_am_ageOf s.1 s.2.1 s.2.2.2.1 (g.2.2.2.2.2.2 (i + 1))))) = .inr "java/util/NoSuchElementException" := by
    rcases ag with ⟨et, eo⟩ | ⟨et, eo⟩
    · exact Or.inr (eo)
    · exact Or.inl ⟨_, eo⟩
  have hcd : z_cd [("java/util/NoSuchElementException", 1)] (q_oI ((x_am_ageOf s.1 s.2.1 s.2.2.2.1 (g.2.2.2.2.2.2 (i + 1))))) = (x_mo_ageOf al s.1 (g.2.2.2.2.2.2 (i + 1))).2 := by
    rcases ag with ⟨et, eo⟩ | ⟨et, eo⟩
    · rw [et, eo]; rfl
    · rw [et, eo]; rfl
  have hB9 : ∀ h1, (z_C h1 hs se sf s s1 nx kp rw ic fi lc fl ∧ q_zone h h1 100 115) → h1.2 223 = some (.inl (4, 1, .inr (.inl f))) := fun h1 hb => (hb.2.2 _ (by omega) (by omega)).trans c223
  refine q_invSH (mc' := 1) (ms' := 6) (d' := d - 1) (as := [.ref 100, .int ((g.2.2.2.2.2.2 (i + 1))), .ref 223]) dL_law_1082 kM_L_ageOf kL_L_215 kT_L_ageOf rfl rfl rfl (Nat.le_of_ble_eq_true rfl) (by omega) (by decide) (by omega) (by omega) (e_L_ageOf (d := d - 1) (dd := d - 2) w.1.c0 hB9 ho9 (c_ageOf (g := g) (h := h) (d := d - 2) w (g.2.2.2.2.2.2 (i + 1)) (by omega)) (by omega)) (q_kC (fun h1 hB => ?_)) q_xC
  obtain ⟨h0, ⟨wc1, q1⟩, e9⟩ := hB
  obtain ⟨f2, c223b, hf2⟩ := z_outL_c (o := q_oI ((x_am_ageOf s.1 s.2.1 s.2.2.2.1 (g.2.2.2.2.2.2 (i + 1))))) (hB9 h0 ⟨wc1, q1⟩)
  have qs : q_same h0 h1 223 1 := e9 ▸ z_outL_same
  rw [← e9] at c223b
  clear e9
  have hz : 225 ≤ h.1 := w.2.2.2.2.2.2.2.2.2.s0
  have hz0 : h.1 ≤ h0.1 := q1.1
  have c224b : h1.2 224 = _ := (qs.2 _ (by omega) (by omega)).trans ((q1.2 _ (by omega) (by omega)).trans c224)
  have w1 := wc1.keep (qs.wide (by omega) (by omega))
  have m1 := m.keepI (h1 := h1) (Nat.le_trans q1.1 qs.1) (fun j b1 b2 => (qs.2 j (by omega) (by omega)).trans (q1.2 j (by omega) (by omega)))
  clear wc1 hB9 ho9 m
  change q_W _ _ _ _ _ _ _ _ 1085 [.ref 0, .ref 100, .ref 215, .ref 223, .ref 224, .int (nI i), q_u, q_u, q_u] [.int (z_cd [("java/util/NoSuchElementException", 1)] (q_oI ((x_am_ageOf s.1 s.2.1 s.2.2.2.1 (g.2.2.2.2.2.2 (i + 1))))))] h1
  rw [hcd]
  refine q_istore dL_law_1085 (by decide) rfl ?_
  change q_W _ _ _ _ _ _ _ _ 1087 [.ref 0, .ref 100, .ref 215, .ref 223, .ref 224, .int (nI i), .int ((x_mo_ageOf al s.1 (g.2.2.2.2.2.2 (i + 1))).2), q_u, q_u] [] h1
  refine q_aload_n (by first | assumption | (rw [q_R0e]; omega)) dL_law_1087 rfl ?_
  refine q_aload_nO ho dL_law_1088 rfl ?_
  refine q_iload dL_law_1089 rfl ?_
  refine q_iconst (v := 1) dL_law_1091 rfl ?_
  refine q_iaddN (a := i) (b := 1) dL_law_1092 ?_
  refine q_taldIN (by decide) dL_law_1093 (rfl : q_ar g 0 = _) (by omega) hN ?_
  change q_W _ _ _ _ _ _ _ _ _ _ [.int (g.2.2.2.2.2.2 (i + 1)), .ref 215] _
  refine q_invV (mc' := 0) (ms' := 0) (d' := d - 1) (as := [.int ((g.2.2.2.2.2.2 (i + 1)))]) dL_law_1094 kM_X11_ageOf kL_L_217 kI_X11_ageOf kS_X11_ageOf rfl (kC_X11.1) m1.c0 rfl rfl (Nat.le_of_ble_eq_true rfl) (by omega) (by decide) (by omega) (by omega) (r_ageOf (g := g) (d := d - 1) m1 e0 hn e3 hm (g.2.2.2.2.2.2 (i + 1)) (by omega)) (q_kC (fun h3 hB3 => ?_)) q_xC
  obtain ⟨m3, q3⟩ := hB3
  obtain ⟨rs3, ac3, rj3, ro3, bf3, he3, er3, cm3, cn3, m3⟩ := m3
  change q_W _ _ _ _ _ _ _ _ 1097 [.ref 0, .ref 100, .ref 215, .ref 223, .ref 224, .int (nI i), .int ((x_mo_ageOf al s.1 (g.2.2.2.2.2.2 (i + 1))).2), q_u, q_u] [.int ((x_mo_ageOf al s.1 (g.2.2.2.2.2.2 (i + 1))).1)] h3
  refine q_istore dL_law_1097 (by decide) rfl ?_
  change q_W _ _ _ _ _ _ _ _ 1099 [.ref 0, .ref 100, .ref 215, .ref 223, .ref 224, .int (nI i), .int ((x_mo_ageOf al s.1 (g.2.2.2.2.2.2 (i + 1))).2), .int ((x_mo_ageOf al s.1 (g.2.2.2.2.2.2 (i + 1))).1), q_u] [] h3
  refine q_aload_n (by first | assumption | (rw [q_R0e]; omega)) dL_law_1099 rfl ?_
  refine q_invV (mc' := 0) (ms' := 0) (d' := d - 1) (as := []) dL_law_1100 kM_X11_thrown kL_L_166 kI_X11_thrown kS_X11_thrown rfl (kC_X11.1) m3.c0 rfl rfl (Nat.le_of_ble_eq_true rfl) (by omega) (by decide) (by omega) (by omega) (e_mo_thrownR (d := d - 1) m3 (by omega)) (q_kR ?_) q_xR
  change q_W _ _ _ _ _ _ _ _ 1103 [.ref 0, .ref 100, .ref 215, .ref 223, .ref 224, .int (nI i), .int ((x_mo_ageOf al s.1 (g.2.2.2.2.2.2 (i + 1))).2), .int ((x_mo_ageOf al s.1 (g.2.2.2.2.2.2 (i + 1))).1), q_u] [.int ((x_mo_ageOf al s.1 (g.2.2.2.2.2.2 (i + 1))).2)] h3
  refine q_iload dL_law_1103 rfl ?_
  refine q_icmp_eq 1110 dL_law_1105 (by decide) (fun _ => ?_) (fun b => absurd rfl b)
  refine q_iload dL_law_1110 rfl ?_
  have hz3 : h1.1 ≤ h3.1 := q3.1
  have hz4 : h0.1 ≤ h1.1 := qs.1
  have fin : q_W g mL_law d mc ms Q (kc + 1) (ks + 6) 1127 [.ref 0, .ref 100, .ref 215, .ref 223, .ref 224, .int (nI i), .int ((x_mo_ageOf al s.1 (g.2.2.2.2.2.2 (i + 1))).2), .int ((x_mo_ageOf al s.1 (g.2.2.2.2.2.2 (i + 1))).1), q_u] [] h3 := by
    refine q_goto 2985 dL_law_1127 (by decide) ?_
    refine q_forget 6 ?_
    refine q_forget 7 ?_
    change q_W _ _ _ _ _ _ _ _ 2985 [.ref 0, .ref 100, .ref 215, .ref 223, .ref 224, .int (nI i), q_u, q_u, q_u] [] h3
    exact q_widen (by omega) (by omega) (K h3 ⟨_, _, _, _, _, _, _, _, _, _, _, _, _, _, _, _, _, _, _, _, _, _, w1.keep (q3.wide (by omega) (by omega)), ⟨_, ⟨_, _, _, _, _, _, _, _, _, m3⟩⟩, ⟨_, (q3.2 _ (by omega) (by omega)).trans c223b⟩, ⟨_, (q3.2 _ (by omega) (by omega)).trans c224b⟩, J2⟩)
  refine q_if_ne 1127 dL_law_1112 (by decide) (fun _ => fin) (fun b => ?_)
  have eo9 : (q_oI ((x_am_ageOf s.1 s.2.1 s.2.2.2.1 (g.2.2.2.2.2.2 (i + 1))))) = .inl (some (.int ((x_mo_ageOf al s.1 (g.2.2.2.2.2.2 (i + 1))).1))) := by
    rcases ag with ⟨et, eo⟩ | ⟨et, eo⟩
    · exact absurd (et.symm.trans b) (by decide)
    · exact eo
  have ev := hf2 _ eo9
  refine q_aload_n (by first | assumption | (rw [q_R0e]; omega)) dL_law_1115 rfl ?_
  refine q_iconst (v := 0) dL_law_1116 rfl ?_
  refine q_lald (f := f2) dL_law_1117 ((q3.2 _ (by omega) (by omega)).trans c223b) (vp_in_nI (n := 0) (N := 1) (by decide) (by decide)) ?_
  change q_W _ _ _ _ _ _ _ _ _ _ [.long (f2 0)] _
  rw [ev]
  refine q_iload dL_law_1118 rfl ?_
  refine q_i2l dL_law_1120 rfl ?_
  refine q_lcmp dL_law_1121 ?_
  rw [z_lcmp]
  exact q_if_eq 1127 dL_law_1122 (by decide) (fun _ => fin) (fun b => absurd rfl b)
set_option maxRecDepth 100000 in
set_option maxHeartbeats 4000000 in
theorem l_c_strengthOf {g : q_G} {h : q_H} {d mc ms kc ks i t : Nat} {Q : q_O → q_H → Prop} (hP : z_P_strengthOf) (hI : z_I t h) (ht : t < 512) (hi : i + 2 < g.2.2.2.2.2.1) (hN : g.2.2.2.2.2.1 < 2 ^ 31) (ho : q_isold g 0) (hd : 26 ≤ d) (hkc : kc + 66 ≤ mc) (hks : ks + 10588 ≤ ms) (K : ∀ h2, z_I (t + 1) h2 → q_W g mL_law d mc ms Q (kc + 66) (ks + 10588) 2985 [.ref 0, .ref 100, .ref 215, .ref 223, .ref 224, .int (nI i), q_u, q_u, q_u] [] h2) : q_W g mL_law d mc ms Q kc ks 1130 [.ref 0, .ref 100, .ref 215, .ref 223, .ref 224, .int (nI i), q_u, q_u, q_u] [] h := by
  obtain ⟨hs, se, sf, s, s1, nx, kp, rw, ic, fi, lc, fl, al, cg, sv, ad, ln, lz, ip, ty, ea, fa, wc, ⟨th, wm⟩, ⟨f, c223⟩, ⟨fd, c224⟩, J⟩ := hI
  obtain ⟨s2, ca, cj, co, won, lost, pf, cv, sc, pc, pp, po, vb, oa, ob, w⟩ := wc
  obtain ⟨rs, ac, rj, ro, bf, he, er, cm, cn, m⟩ := wm
  obtain ⟨e0, hn, e3, hm⟩ := J.n0
  obtain ⟨ag, J2⟩ := hP t hs se sf s s1 nx kp rw ic fi lc fl al cg sv ad ln lz ip ty ea fa  (g.2.2.2.2.2.2 (i + 1)) ht J
  refine q_aload_n (by first | assumption | (rw [q_R0e]; omega)) dL_law_1130 rfl ?_
  refine q_aload_nO ho dL_law_1131 rfl ?_
  refine q_iload dL_law_1132 rfl ?_
  refine q_iconst (v := 1) dL_law_1134 rfl ?_
  refine q_iaddN (a := i) (b := 1) dL_law_1135 ?_
  refine q_taldIN (by decide) dL_law_1136 (rfl : q_ar g 0 = _) (by omega) hN ?_
  change q_W _ _ _ _ _ _ _ _ _ _ [.int (g.2.2.2.2.2.2 (i + 1)), .ref 100] _
  refine q_aload_n (by first | assumption | (rw [q_R0e]; omega)) dL_law_1137 rfl ?_
  have ho9 : (∃ v, (q_oI ((x_am_strengthOf s.1 s.2.1 s.2.2.1 s.2.2.2.1 (g.2.2.2.2.2.2 (i + 1))))) = .inl (some (.int v))) ∨ (q_oI ((x_am_strengthOf s.1 s.2.1 s.2.2.1 s.2.2.2.1 (g.2.2.2.2.2.2 (i + 1))))) = .inr "java/util/NoSuchElementException" := by
    rcases ag with ⟨et, eo⟩ | ⟨et, eo⟩
    · exact Or.inr (eo)
    · exact Or.inl ⟨_, eo⟩
  have hcd : z_cd [("java/util/NoSuchElementException", 1)] (q_oI ((x_am_strengthOf s.1 s.2.1 s.2.2.1 s.2.2.2.1 (g.2.2.2.2.2.2 (i + 1))))) = (x_mo_strengthOf al s.1 (g.2.2.2.2.2.2 (i + 1))).2 := by
    rcases ag with ⟨et, eo⟩ | ⟨et, eo⟩
    · rw [et, eo]; rfl
    · rw [et, eo]; rfl
  have hB9 : ∀ h1, (z_C h1 hs se sf s s1 nx kp rw ic fi lc fl ∧ q_zone h h1 100 115) → h1.2 223 = some (.inl (4, 1, .inr (.inl f))) := fun h1 hb => (hb.2.2 _ (by omega) (by omega)).trans c223
  refine q_invSH (mc' := 1) (ms' := 6) (d' := d - 1) (as := [.ref 100, .int ((g.2.2.2.2.2.2 (i + 1))), .ref 223]) dL_law_1138 kM_L_strengthOf kL_L_218 kT_L_strengthOf rfl rfl rfl (Nat.le_of_ble_eq_true rfl) (by omega) (by decide) (by omega) (by omega) (e_L_strengthOf (d := d - 1) (dd := d - 2) w.1.c0 hB9 ho9 (c_strengthOf (g := g) (h := h) (d := d - 2) w (g.2.2.2.2.2.2 (i + 1)) (by omega)) (by omega)) (q_kC (fun h1 hB => ?_)) q_xC
  obtain ⟨h0, ⟨wc1, q1⟩, e9⟩ := hB
  obtain ⟨f2, c223b, hf2⟩ := z_outL_c (o := q_oI ((x_am_strengthOf s.1 s.2.1 s.2.2.1 s.2.2.2.1 (g.2.2.2.2.2.2 (i + 1))))) (hB9 h0 ⟨wc1, q1⟩)
  have qs : q_same h0 h1 223 1 := e9 ▸ z_outL_same
  rw [← e9] at c223b
  clear e9
  have hz : 225 ≤ h.1 := w.2.2.2.2.2.2.2.2.2.s0
  have hz0 : h.1 ≤ h0.1 := q1.1
  have c224b : h1.2 224 = _ := (qs.2 _ (by omega) (by omega)).trans ((q1.2 _ (by omega) (by omega)).trans c224)
  have w1 := wc1.keep (qs.wide (by omega) (by omega))
  have m1 := m.keepI (h1 := h1) (Nat.le_trans q1.1 qs.1) (fun j b1 b2 => (qs.2 j (by omega) (by omega)).trans (q1.2 j (by omega) (by omega)))
  clear wc1 hB9 ho9 m
  change q_W _ _ _ _ _ _ _ _ 1141 [.ref 0, .ref 100, .ref 215, .ref 223, .ref 224, .int (nI i), q_u, q_u, q_u] [.int (z_cd [("java/util/NoSuchElementException", 1)] (q_oI ((x_am_strengthOf s.1 s.2.1 s.2.2.1 s.2.2.2.1 (g.2.2.2.2.2.2 (i + 1))))))] h1
  rw [hcd]
  refine q_istore dL_law_1141 (by decide) rfl ?_
  change q_W _ _ _ _ _ _ _ _ 1143 [.ref 0, .ref 100, .ref 215, .ref 223, .ref 224, .int (nI i), .int ((x_mo_strengthOf al s.1 (g.2.2.2.2.2.2 (i + 1))).2), q_u, q_u] [] h1
  refine q_aload_n (by first | assumption | (rw [q_R0e]; omega)) dL_law_1143 rfl ?_
  refine q_aload_nO ho dL_law_1144 rfl ?_
  refine q_iload dL_law_1145 rfl ?_
  refine q_iconst (v := 1) dL_law_1147 rfl ?_
  refine q_iaddN (a := i) (b := 1) dL_law_1148 ?_
  refine q_taldIN (by decide) dL_law_1149 (rfl : q_ar g 0 = _) (by omega) hN ?_
  change q_W _ _ _ _ _ _ _ _ _ _ [.int (g.2.2.2.2.2.2 (i + 1)), .ref 215] _
  refine q_invV (mc' := 0) (ms' := 0) (d' := d - 1) (as := [.int ((g.2.2.2.2.2.2 (i + 1)))]) dL_law_1150 kM_X11_strengthOf kL_L_220 kI_X11_strengthOf kS_X11_strengthOf rfl (kC_X11.1) m1.c0 rfl rfl (Nat.le_of_ble_eq_true rfl) (by omega) (by decide) (by omega) (by omega) (r_strengthOf (g := g) (d := d - 1) m1 e0 hn e3 hm (g.2.2.2.2.2.2 (i + 1)) (by omega)) (q_kC (fun h3 hB3 => ?_)) q_xC
  obtain ⟨m3, q3⟩ := hB3
  obtain ⟨rs3, ac3, rj3, ro3, bf3, he3, er3, cm3, cn3, m3⟩ := m3
  change q_W _ _ _ _ _ _ _ _ 1153 [.ref 0, .ref 100, .ref 215, .ref 223, .ref 224, .int (nI i), .int ((x_mo_strengthOf al s.1 (g.2.2.2.2.2.2 (i + 1))).2), q_u, q_u] [.int ((x_mo_strengthOf al s.1 (g.2.2.2.2.2.2 (i + 1))).1)] h3
  refine q_istore dL_law_1153 (by decide) rfl ?_
  change q_W _ _ _ _ _ _ _ _ 1155 [.ref 0, .ref 100, .ref 215, .ref 223, .ref 224, .int (nI i), .int ((x_mo_strengthOf al s.1 (g.2.2.2.2.2.2 (i + 1))).2), .int ((x_mo_strengthOf al s.1 (g.2.2.2.2.2.2 (i + 1))).1), q_u] [] h3
  refine q_aload_n (by first | assumption | (rw [q_R0e]; omega)) dL_law_1155 rfl ?_
  refine q_invV (mc' := 0) (ms' := 0) (d' := d - 1) (as := []) dL_law_1156 kM_X11_thrown kL_L_166 kI_X11_thrown kS_X11_thrown rfl (kC_X11.1) m3.c0 rfl rfl (Nat.le_of_ble_eq_true rfl) (by omega) (by decide) (by omega) (by omega) (e_mo_thrownR (d := d - 1) m3 (by omega)) (q_kR ?_) q_xR
  change q_W _ _ _ _ _ _ _ _ 1159 [.ref 0, .ref 100, .ref 215, .ref 223, .ref 224, .int (nI i), .int ((x_mo_strengthOf al s.1 (g.2.2.2.2.2.2 (i + 1))).2), .int ((x_mo_strengthOf al s.1 (g.2.2.2.2.2.2 (i + 1))).1), q_u] [.int ((x_mo_strengthOf al s.1 (g.2.2.2.2.2.2 (i + 1))).2)] h3
  refine q_iload dL_law_1159 rfl ?_
  refine q_icmp_eq 1166 dL_law_1161 (by decide) (fun _ => ?_) (fun b => absurd rfl b)
  refine q_iload dL_law_1166 rfl ?_
  have hz3 : h1.1 ≤ h3.1 := q3.1
  have hz4 : h0.1 ≤ h1.1 := qs.1
  have fin : q_W g mL_law d mc ms Q (kc + 1) (ks + 6) 1183 [.ref 0, .ref 100, .ref 215, .ref 223, .ref 224, .int (nI i), .int ((x_mo_strengthOf al s.1 (g.2.2.2.2.2.2 (i + 1))).2), .int ((x_mo_strengthOf al s.1 (g.2.2.2.2.2.2 (i + 1))).1), q_u] [] h3 := by
    refine q_goto 2985 dL_law_1183 (by decide) ?_
    refine q_forget 6 ?_
    refine q_forget 7 ?_
    change q_W _ _ _ _ _ _ _ _ 2985 [.ref 0, .ref 100, .ref 215, .ref 223, .ref 224, .int (nI i), q_u, q_u, q_u] [] h3
    exact q_widen (by omega) (by omega) (K h3 ⟨_, _, _, _, _, _, _, _, _, _, _, _, _, _, _, _, _, _, _, _, _, _, w1.keep (q3.wide (by omega) (by omega)), ⟨_, ⟨_, _, _, _, _, _, _, _, _, m3⟩⟩, ⟨_, (q3.2 _ (by omega) (by omega)).trans c223b⟩, ⟨_, (q3.2 _ (by omega) (by omega)).trans c224b⟩, J2⟩)
  refine q_if_ne 1183 dL_law_1168 (by decide) (fun _ => fin) (fun b => ?_)
  have eo9 : (q_oI ((x_am_strengthOf s.1 s.2.1 s.2.2.1 s.2.2.2.1 (g.2.2.2.2.2.2 (i + 1))))) = .inl (some (.int ((x_mo_strengthOf al s.1 (g.2.2.2.2.2.2 (i + 1))).1))) := by
    rcases ag with ⟨et, eo⟩ | ⟨et, eo⟩
    · exact absurd (et.symm.trans b) (by decide)
    · exact eo
  have ev := hf2 _ eo9
  refine q_aload_n (by first | assumption | (rw [q_R0e]; omega)) dL_law_1171 rfl ?_
  refine q_iconst (v := 0) dL_law_1172 rfl ?_
  refine q_lald (f := f2) dL_law_1173 ((q3.2 _ (by omega) (by omega)).trans c223b) (vp_in_nI (n := 0) (N := 1) (by decide) (by decide)) ?_
  change q_W _ _ _ _ _ _ _ _ _ _ [.long (f2 0)] _
  rw [ev]
  refine q_iload dL_law_1174 rfl ?_
  refine q_i2l dL_law_1176 rfl ?_
  refine q_lcmp dL_law_1177 ?_
  rw [z_lcmp]
  exact q_if_eq 1183 dL_law_1178 (by decide) (fun _ => fin) (fun b => absurd rfl b)
set_option maxRecDepth 100000 in
set_option maxHeartbeats 4000000 in
theorem l_c_attackCount {g : q_G} {h : q_H} {d mc ms kc ks i t : Nat} {Q : q_O → q_H → Prop} (hP : z_P_attackCount) (hI : z_I t h) (ht : t < 512) (hi : i + 2 < g.2.2.2.2.2.1) (hN : g.2.2.2.2.2.1 < 2 ^ 31) (ho : q_isold g 0) (hd : 26 ≤ d) (hkc : kc + 66 ≤ mc) (hks : ks + 10588 ≤ ms) (K : ∀ h2, z_I (t + 1) h2 → q_W g mL_law d mc ms Q (kc + 66) (ks + 10588) 2985 [.ref 0, .ref 100, .ref 215, .ref 223, .ref 224, .int (nI i), q_u, q_u, q_u] [] h2) : q_W g mL_law d mc ms Q kc ks 1186 [.ref 0, .ref 100, .ref 215, .ref 223, .ref 224, .int (nI i), q_u, q_u, q_u] [] h := by
  obtain ⟨hs, se, sf, s, s1, nx, kp, rw, ic, fi, lc, fl, al, cg, sv, ad, ln, lz, ip, ty, ea, fa, wc, ⟨th, wm⟩, ⟨f, c223⟩, ⟨fd, c224⟩, J⟩ := hI
  obtain ⟨s2, ca, cj, co, won, lost, pf, cv, sc, pc, pp, po, vb, oa, ob, w⟩ := wc
  obtain ⟨rs, ac, rj, ro, bf, he, er, cm, cn, m⟩ := wm
  obtain ⟨e0, hn, e3, hm⟩ := J.n0
  obtain ⟨ag, J2⟩ := hP t hs se sf s s1 nx kp rw ic fi lc fl al cg sv ad ln lz ip ty ea fa   ht J
  refine q_aload_n (by first | assumption | (rw [q_R0e]; omega)) dL_law_1186 rfl ?_
  refine q_invV (mc' := 0) (ms' := 0) (d' := d - 1) (as := []) dL_law_1187 kM_X10_attackCount kL_L_221 kI_X10_attackCount kS_X10_attackCount rfl (kC_X10.1) w.1.c0 rfl rfl (Nat.le_of_ble_eq_true rfl) (by omega) (by decide) (by omega) (by omega) (c_attackCount (g := g) (h := h) (d := d - 1) w (by omega)) (q_kC (fun h1 hB => ?_)) q_xC
  obtain ⟨w1, q1⟩ := hB
  have hz : 225 ≤ h.1 := w.2.2.2.2.2.2.2.2.2.s0
  have hz0 : h.1 ≤ h1.1 := q1.1
  have m1 := m.keepI (h1 := h1) q1.1 (fun j b1 b2 => q1.2 j (by omega) (by omega))
  have c223b := (q1.2 _ (by omega) (by omega)).trans c223
  have c224b := (q1.2 _ (by omega) (by omega)).trans c224
  change q_W _ _ _ _ _ _ _ _ 1190 [.ref 0, .ref 100, .ref 215, .ref 223, .ref 224, .int (nI i), q_u, q_u, q_u] [.int ((x_am_attackCount s.1 s.2.2.2.2.1))] h1
  rw [ag]
  refine q_aload_n (by first | assumption | (rw [q_R0e]; omega)) dL_law_1190 rfl ?_
  refine q_invV (mc' := 0) (ms' := 0) (d' := d - 1) (as := []) dL_law_1191 kM_X11_attackCount kL_L_224 kI_X11_attackCount kS_X11_attackCount rfl (kC_X11.1) m1.c0 rfl rfl (Nat.le_of_ble_eq_true rfl) (by omega) (by decide) (by omega) (by omega) (r_attackCount (g := g) (d := d - 1) m1 e0 hn e3 hm (by omega)) (q_kC (fun h3 hB3 => ?_)) q_xC
  obtain ⟨m3, q3⟩ := hB3
  change q_W _ _ _ _ _ _ _ _ 1194 [.ref 0, .ref 100, .ref 215, .ref 223, .ref 224, .int (nI i), q_u, q_u, q_u] [.int ((x_mo_attackCount al s.1).1), .int ((x_mo_attackCount al s.1).1)] h3
  refine q_icmp_eq 2985 dL_law_1194 (by decide) (fun _ => ?_) (fun b => absurd rfl b)
  exact q_widen (by omega) (by omega) (K h3 ⟨_, _, _, _, _, _, _, _, _, _, _, _, _, _, _, _, _, _, _, _, _, _, w1.keep (q3.wide (by omega) (by omega)), ⟨_, m3⟩, ⟨_, (q3.2 _ (by omega) (by omega)).trans c223b⟩, ⟨_, (q3.2 _ (by omega) (by omega)).trans c224b⟩, J2⟩)
set_option maxRecDepth 100000 in
set_option maxHeartbeats 4000000 in
theorem l_c_hasAttack {g : q_G} {h : q_H} {d mc ms kc ks i t : Nat} {Q : q_O → q_H → Prop} (hP : z_P_hasAttack) (hI : z_I t h) (ht : t < 512) (hi : i + 2 < g.2.2.2.2.2.1) (hN : g.2.2.2.2.2.1 < 2 ^ 31) (ho : q_isold g 0) (hd : 26 ≤ d) (hkc : kc + 66 ≤ mc) (hks : ks + 10588 ≤ ms) (K : ∀ h2, z_I (t + 1) h2 → q_W g mL_law d mc ms Q (kc + 66) (ks + 10588) 2985 [.ref 0, .ref 100, .ref 215, .ref 223, .ref 224, .int (nI i), q_u, q_u, q_u] [] h2) : q_W g mL_law d mc ms Q kc ks 1199 [.ref 0, .ref 100, .ref 215, .ref 223, .ref 224, .int (nI i), q_u, q_u, q_u] [] h := by
  obtain ⟨hs, se, sf, s, s1, nx, kp, rw, ic, fi, lc, fl, al, cg, sv, ad, ln, lz, ip, ty, ea, fa, wc, ⟨th, wm⟩, ⟨f, c223⟩, ⟨fd, c224⟩, J⟩ := hI
  obtain ⟨s2, ca, cj, co, won, lost, pf, cv, sc, pc, pp, po, vb, oa, ob, w⟩ := wc
  obtain ⟨rs, ac, rj, ro, bf, he, er, cm, cn, m⟩ := wm
  obtain ⟨e0, hn, e3, hm⟩ := J.n0
  obtain ⟨ag, J2⟩ := hP t hs se sf s s1 nx kp rw ic fi lc fl al cg sv ad ln lz ip ty ea fa  (g.2.2.2.2.2.2 (i + 1)) (g.2.2.2.2.2.2 (i + 2)) ht J
  refine q_aload_n (by first | assumption | (rw [q_R0e]; omega)) dL_law_1199 rfl ?_
  refine q_aload_nO ho dL_law_1200 rfl ?_
  refine q_iload dL_law_1201 rfl ?_
  refine q_iconst (v := 1) dL_law_1203 rfl ?_
  refine q_iaddN (a := i) (b := 1) dL_law_1204 ?_
  refine q_taldIN (by decide) dL_law_1205 (rfl : q_ar g 0 = _) (by omega) hN ?_
  change q_W _ _ _ _ _ _ _ _ _ _ [.int (g.2.2.2.2.2.2 (i + 1)), .ref 100] _
  refine q_aload_nO ho dL_law_1206 rfl ?_
  refine q_iload dL_law_1207 rfl ?_
  refine q_iconst (v := 2) dL_law_1209 rfl ?_
  refine q_iaddN (a := i) (b := 2) dL_law_1210 ?_
  refine q_taldIN (by decide) dL_law_1211 (rfl : q_ar g 0 = _) (by omega) hN ?_
  change q_W _ _ _ _ _ _ _ _ _ _ [.int (g.2.2.2.2.2.2 (i + 2)), .int ((g.2.2.2.2.2.2 (i + 1))), .ref 100] _
  refine q_aload_n (by first | assumption | (rw [q_R0e]; omega)) dL_law_1212 rfl ?_
  have ho9 : (∃ v, (q_oB ((x_am_hasAttack s.1 s.2.1 s.2.2.2.2.1 (g.2.2.2.2.2.2 (i + 1)) (g.2.2.2.2.2.2 (i + 2))))) = .inl (some (.int (z_b v)))) ∨ (q_oB ((x_am_hasAttack s.1 s.2.1 s.2.2.2.2.1 (g.2.2.2.2.2.2 (i + 1)) (g.2.2.2.2.2.2 (i + 2))))) = .inr "java/util/NoSuchElementException" := by
    rcases ag with ⟨et, eo⟩ | ⟨et, eo⟩
    · exact Or.inr (eo)
    · exact Or.inl ⟨_, eo⟩
  have hcd : z_cd [("java/util/NoSuchElementException", 1)] (q_oB ((x_am_hasAttack s.1 s.2.1 s.2.2.2.2.1 (g.2.2.2.2.2.2 (i + 1)) (g.2.2.2.2.2.2 (i + 2))))) = (x_mo_hasAttack al s.1 (g.2.2.2.2.2.2 (i + 1)) (g.2.2.2.2.2.2 (i + 2))).2 := by
    rcases ag with ⟨et, eo⟩ | ⟨et, eo⟩
    · rw [et, eo]; rfl
    · rw [et, eo]; rfl
  have hB9 : ∀ h1, (z_C h1 hs se sf s s1 nx kp rw ic fi lc fl ∧ q_zone h h1 100 115) → h1.2 223 = some (.inl (4, 1, .inr (.inl f))) := fun h1 hb => (hb.2.2 _ (by omega) (by omega)).trans c223
  refine q_invSH (mc' := 2) (ms' := 12) (d' := d - 1) (as := [.ref 100, .int ((g.2.2.2.2.2.2 (i + 1))), .int ((g.2.2.2.2.2.2 (i + 2))), .ref 223]) dL_law_1213 kM_L_hasAttack kL_L_225 kT_L_hasAttack rfl rfl rfl (Nat.le_of_ble_eq_true rfl) (by omega) (by decide) (by omega) (by omega) (e_L_hasAttack (d := d - 1) (dd := d - 2) w.1.c0 hB9 ho9 (c_hasAttack (g := g) (h := h) (d := d - 2) w (g.2.2.2.2.2.2 (i + 1)) (g.2.2.2.2.2.2 (i + 2)) (by omega)) (by omega)) (q_kC (fun h1 hB => ?_)) q_xC
  obtain ⟨h0, ⟨wc1, q1⟩, e9⟩ := hB
  obtain ⟨f2, c223b, hf2⟩ := z_outL_c (o := q_oB ((x_am_hasAttack s.1 s.2.1 s.2.2.2.2.1 (g.2.2.2.2.2.2 (i + 1)) (g.2.2.2.2.2.2 (i + 2))))) (hB9 h0 ⟨wc1, q1⟩)
  have qs : q_same h0 h1 223 1 := e9 ▸ z_outL_same
  rw [← e9] at c223b
  clear e9
  have hz : 225 ≤ h.1 := w.2.2.2.2.2.2.2.2.2.s0
  have hz0 : h.1 ≤ h0.1 := q1.1
  have c224b : h1.2 224 = _ := (qs.2 _ (by omega) (by omega)).trans ((q1.2 _ (by omega) (by omega)).trans c224)
  have w1 := wc1.keep (qs.wide (by omega) (by omega))
  have m1 := m.keepI (h1 := h1) (Nat.le_trans q1.1 qs.1) (fun j b1 b2 => (qs.2 j (by omega) (by omega)).trans (q1.2 j (by omega) (by omega)))
  clear wc1 hB9 ho9 m
  change q_W _ _ _ _ _ _ _ _ 1216 [.ref 0, .ref 100, .ref 215, .ref 223, .ref 224, .int (nI i), q_u, q_u, q_u] [.int (z_cd [("java/util/NoSuchElementException", 1)] (q_oB ((x_am_hasAttack s.1 s.2.1 s.2.2.2.2.1 (g.2.2.2.2.2.2 (i + 1)) (g.2.2.2.2.2.2 (i + 2))))))] h1
  rw [hcd]
  refine q_istore dL_law_1216 (by decide) rfl ?_
  change q_W _ _ _ _ _ _ _ _ 1218 [.ref 0, .ref 100, .ref 215, .ref 223, .ref 224, .int (nI i), .int ((x_mo_hasAttack al s.1 (g.2.2.2.2.2.2 (i + 1)) (g.2.2.2.2.2.2 (i + 2))).2), q_u, q_u] [] h1
  refine q_aload_n (by first | assumption | (rw [q_R0e]; omega)) dL_law_1218 rfl ?_
  refine q_aload_nO ho dL_law_1219 rfl ?_
  refine q_iload dL_law_1220 rfl ?_
  refine q_iconst (v := 1) dL_law_1222 rfl ?_
  refine q_iaddN (a := i) (b := 1) dL_law_1223 ?_
  refine q_taldIN (by decide) dL_law_1224 (rfl : q_ar g 0 = _) (by omega) hN ?_
  change q_W _ _ _ _ _ _ _ _ _ _ [.int (g.2.2.2.2.2.2 (i + 1)), .ref 215] _
  refine q_aload_nO ho dL_law_1225 rfl ?_
  refine q_iload dL_law_1226 rfl ?_
  refine q_iconst (v := 2) dL_law_1228 rfl ?_
  refine q_iaddN (a := i) (b := 2) dL_law_1229 ?_
  refine q_taldIN (by decide) dL_law_1230 (rfl : q_ar g 0 = _) (by omega) hN ?_
  change q_W _ _ _ _ _ _ _ _ _ _ [.int (g.2.2.2.2.2.2 (i + 2)), .int ((g.2.2.2.2.2.2 (i + 1))), .ref 215] _
  refine q_invV (mc' := 0) (ms' := 0) (d' := d - 1) (as := [.int ((g.2.2.2.2.2.2 (i + 1))), .int ((g.2.2.2.2.2.2 (i + 2)))]) dL_law_1231 kM_X11_hasAttack kL_L_227 kI_X11_hasAttack kS_X11_hasAttack rfl (kC_X11.1) m1.c0 rfl rfl (Nat.le_of_ble_eq_true rfl) (by omega) (by decide) (by omega) (by omega) (r_hasAttack (g := g) (d := d - 1) m1 e0 hn e3 hm (g.2.2.2.2.2.2 (i + 1)) (g.2.2.2.2.2.2 (i + 2)) (by omega)) (q_kC (fun h3 hB3 => ?_)) q_xC
  obtain ⟨m3, q3⟩ := hB3
  obtain ⟨rs3, ac3, rj3, ro3, bf3, he3, er3, cm3, cn3, m3⟩ := m3
  change q_W _ _ _ _ _ _ _ _ 1234 [.ref 0, .ref 100, .ref 215, .ref 223, .ref 224, .int (nI i), .int ((x_mo_hasAttack al s.1 (g.2.2.2.2.2.2 (i + 1)) (g.2.2.2.2.2.2 (i + 2))).2), q_u, q_u] [.int (z_b ((x_mo_hasAttack al s.1 (g.2.2.2.2.2.2 (i + 1)) (g.2.2.2.2.2.2 (i + 2))).1))] h3
  refine q_istore dL_law_1234 (by decide) rfl ?_
  change q_W _ _ _ _ _ _ _ _ 1236 [.ref 0, .ref 100, .ref 215, .ref 223, .ref 224, .int (nI i), .int ((x_mo_hasAttack al s.1 (g.2.2.2.2.2.2 (i + 1)) (g.2.2.2.2.2.2 (i + 2))).2), .int (z_b ((x_mo_hasAttack al s.1 (g.2.2.2.2.2.2 (i + 1)) (g.2.2.2.2.2.2 (i + 2))).1)), q_u] [] h3
  refine q_aload_n (by first | assumption | (rw [q_R0e]; omega)) dL_law_1236 rfl ?_
  refine q_invV (mc' := 0) (ms' := 0) (d' := d - 1) (as := []) dL_law_1237 kM_X11_thrown kL_L_166 kI_X11_thrown kS_X11_thrown rfl (kC_X11.1) m3.c0 rfl rfl (Nat.le_of_ble_eq_true rfl) (by omega) (by decide) (by omega) (by omega) (e_mo_thrownR (d := d - 1) m3 (by omega)) (q_kR ?_) q_xR
  change q_W _ _ _ _ _ _ _ _ 1240 [.ref 0, .ref 100, .ref 215, .ref 223, .ref 224, .int (nI i), .int ((x_mo_hasAttack al s.1 (g.2.2.2.2.2.2 (i + 1)) (g.2.2.2.2.2.2 (i + 2))).2), .int (z_b ((x_mo_hasAttack al s.1 (g.2.2.2.2.2.2 (i + 1)) (g.2.2.2.2.2.2 (i + 2))).1)), q_u] [.int ((x_mo_hasAttack al s.1 (g.2.2.2.2.2.2 (i + 1)) (g.2.2.2.2.2.2 (i + 2))).2)] h3
  refine q_iload dL_law_1240 rfl ?_
  refine q_icmp_eq 1247 dL_law_1242 (by decide) (fun _ => ?_) (fun b => absurd rfl b)
  refine q_iload dL_law_1247 rfl ?_
  have hz3 : h1.1 ≤ h3.1 := q3.1
  have hz4 : h0.1 ≤ h1.1 := qs.1
  have fin : q_W g mL_law d mc ms Q (kc + 2) (ks + 12) 1271 [.ref 0, .ref 100, .ref 215, .ref 223, .ref 224, .int (nI i), .int ((x_mo_hasAttack al s.1 (g.2.2.2.2.2.2 (i + 1)) (g.2.2.2.2.2.2 (i + 2))).2), .int (z_b ((x_mo_hasAttack al s.1 (g.2.2.2.2.2.2 (i + 1)) (g.2.2.2.2.2.2 (i + 2))).1)), q_u] [] h3 := by
    refine q_goto 2985 dL_law_1271 (by decide) ?_
    refine q_forget 6 ?_
    refine q_forget 7 ?_
    change q_W _ _ _ _ _ _ _ _ 2985 [.ref 0, .ref 100, .ref 215, .ref 223, .ref 224, .int (nI i), q_u, q_u, q_u] [] h3
    exact q_widen (by omega) (by omega) (K h3 ⟨_, _, _, _, _, _, _, _, _, _, _, _, _, _, _, _, _, _, _, _, _, _, w1.keep (q3.wide (by omega) (by omega)), ⟨_, ⟨_, _, _, _, _, _, _, _, _, m3⟩⟩, ⟨_, (q3.2 _ (by omega) (by omega)).trans c223b⟩, ⟨_, (q3.2 _ (by omega) (by omega)).trans c224b⟩, J2⟩)
  refine q_if_ne 1271 dL_law_1249 (by decide) (fun _ => fin) (fun b => ?_)
  have eo9 : (q_oB ((x_am_hasAttack s.1 s.2.1 s.2.2.2.2.1 (g.2.2.2.2.2.2 (i + 1)) (g.2.2.2.2.2.2 (i + 2))))) = .inl (some (.int (z_b ((x_mo_hasAttack al s.1 (g.2.2.2.2.2.2 (i + 1)) (g.2.2.2.2.2.2 (i + 2))).1)))) := by
    rcases ag with ⟨et, eo⟩ | ⟨et, eo⟩
    · exact absurd (et.symm.trans b) (by decide)
    · exact eo
  have ev := hf2 _ eo9
  refine q_aload_n (by first | assumption | (rw [q_R0e]; omega)) dL_law_1252 rfl ?_
  refine q_iconst (v := 0) dL_law_1253 rfl ?_
  refine q_lald (f := f2) dL_law_1254 ((q3.2 _ (by omega) (by omega)).trans c223b) (vp_in_nI (n := 0) (N := 1) (by decide) (by decide)) ?_
  change q_W _ _ _ _ _ _ _ _ _ _ [.long (f2 0)] _
  rw [ev]
  refine q_iload dL_law_1255 rfl ?_
  have hlc : q_W g mL_law d mc ms Q (kc + 2) (ks + 12) 1265 [.ref 0, .ref 100, .ref 215, .ref 223, .ref 224, .int (nI i), .int ((x_mo_hasAttack al s.1 (g.2.2.2.2.2.2 (i + 1)) (g.2.2.2.2.2.2 (i + 2))).2), .int (z_b ((x_mo_hasAttack al s.1 (g.2.2.2.2.2.2 (i + 1)) (g.2.2.2.2.2.2 (i + 2))).1)), q_u] [.long (z_b ((x_mo_hasAttack al s.1 (g.2.2.2.2.2.2 (i + 1)) (g.2.2.2.2.2.2 (i + 2))).1)).toInt64, .long (z_b ((x_mo_hasAttack al s.1 (g.2.2.2.2.2.2 (i + 1)) (g.2.2.2.2.2.2 (i + 2))).1)).toInt64] h3 := by
    refine q_lcmp dL_law_1265 ?_
    rw [z_lcmp]
    exact q_if_eq 1271 dL_law_1266 (by decide) (fun _ => fin) (fun b => absurd rfl b)
  revert hlc
  cases (x_mo_hasAttack al s.1 (g.2.2.2.2.2.2 (i + 1)) (g.2.2.2.2.2.2 (i + 2))).1 with
  | false =>
    intro hlc
    refine q_if_eq 1264 dL_law_1257 (by decide) (fun _ => ?_) (fun b => absurd rfl b)
    exact q_lconst (v := 0) dL_law_1264 (by decide) hlc
  | true =>
    intro hlc
    refine q_if_eq 1264 dL_law_1257 (by decide) (fun b => absurd b (by decide)) (fun _ => ?_)
    refine q_lconst (v := 1) dL_law_1260 (by decide) ?_
    exact q_goto 1265 dL_law_1261 (by decide) hlc
set_option maxRecDepth 100000 in
set_option maxHeartbeats 4000000 in
theorem l_c_isSuccessful {g : q_G} {h : q_H} {d mc ms kc ks i t : Nat} {Q : q_O → q_H → Prop} (hP : z_P_isSuccessful) (hI : z_I t h) (ht : t < 512) (hi : i + 2 < g.2.2.2.2.2.1) (hN : g.2.2.2.2.2.1 < 2 ^ 31) (ho : q_isold g 0) (hd : 26 ≤ d) (hkc : kc + 66 ≤ mc) (hks : ks + 10588 ≤ ms) (K : ∀ h2, z_I (t + 1) h2 → q_W g mL_law d mc ms Q (kc + 66) (ks + 10588) 2985 [.ref 0, .ref 100, .ref 215, .ref 223, .ref 224, .int (nI i), q_u, q_u, q_u] [] h2) : q_W g mL_law d mc ms Q kc ks 1274 [.ref 0, .ref 100, .ref 215, .ref 223, .ref 224, .int (nI i), q_u, q_u, q_u] [] h := by
  obtain ⟨hs, se, sf, s, s1, nx, kp, rw, ic, fi, lc, fl, al, cg, sv, ad, ln, lz, ip, ty, ea, fa, wc, ⟨th, wm⟩, ⟨f, c223⟩, ⟨fd, c224⟩, J⟩ := hI
  obtain ⟨s2, ca, cj, co, won, lost, pf, cv, sc, pc, pp, po, vb, oa, ob, w⟩ := wc
  obtain ⟨rs, ac, rj, ro, bf, he, er, cm, cn, m⟩ := wm
  obtain ⟨e0, hn, e3, hm⟩ := J.n0
  obtain ⟨ag, J2⟩ := hP t hs se sf s s1 nx kp rw ic fi lc fl al cg sv ad ln lz ip ty ea fa  (g.2.2.2.2.2.2 (i + 1)) (g.2.2.2.2.2.2 (i + 2)) ht J
  refine q_aload_n (by first | assumption | (rw [q_R0e]; omega)) dL_law_1274 rfl ?_
  refine q_aload_nO ho dL_law_1275 rfl ?_
  refine q_iload dL_law_1276 rfl ?_
  refine q_iconst (v := 1) dL_law_1278 rfl ?_
  refine q_iaddN (a := i) (b := 1) dL_law_1279 ?_
  refine q_taldIN (by decide) dL_law_1280 (rfl : q_ar g 0 = _) (by omega) hN ?_
  change q_W _ _ _ _ _ _ _ _ _ _ [.int (g.2.2.2.2.2.2 (i + 1)), .ref 100] _
  refine q_aload_nO ho dL_law_1281 rfl ?_
  refine q_iload dL_law_1282 rfl ?_
  refine q_iconst (v := 2) dL_law_1284 rfl ?_
  refine q_iaddN (a := i) (b := 2) dL_law_1285 ?_
  refine q_taldIN (by decide) dL_law_1286 (rfl : q_ar g 0 = _) (by omega) hN ?_
  change q_W _ _ _ _ _ _ _ _ _ _ [.int (g.2.2.2.2.2.2 (i + 2)), .int ((g.2.2.2.2.2.2 (i + 1))), .ref 100] _
  refine q_aload_n (by first | assumption | (rw [q_R0e]; omega)) dL_law_1287 rfl ?_
  have ho9 : (∃ v, (q_oB ((x_am_isSuccessful s.1 s.2.1 s.2.2.2.2.1 s.2.2.2.2.2.1 (g.2.2.2.2.2.2 (i + 1)) (g.2.2.2.2.2.2 (i + 2))))) = .inl (some (.int (z_b v)))) ∨ (q_oB ((x_am_isSuccessful s.1 s.2.1 s.2.2.2.2.1 s.2.2.2.2.2.1 (g.2.2.2.2.2.2 (i + 1)) (g.2.2.2.2.2.2 (i + 2))))) = .inr "java/util/NoSuchElementException" := by
    rcases ag with ⟨et, eo⟩ | ⟨et, eo⟩
    · exact Or.inr (eo)
    · exact Or.inl ⟨_, eo⟩
  have hcd : z_cd [("java/util/NoSuchElementException", 1)] (q_oB ((x_am_isSuccessful s.1 s.2.1 s.2.2.2.2.1 s.2.2.2.2.2.1 (g.2.2.2.2.2.2 (i + 1)) (g.2.2.2.2.2.2 (i + 2))))) = (x_mo_isSuccessful al s.1 (g.2.2.2.2.2.2 (i + 1)) (g.2.2.2.2.2.2 (i + 2))).2 := by
    rcases ag with ⟨et, eo⟩ | ⟨et, eo⟩
    · rw [et, eo]; rfl
    · rw [et, eo]; rfl
  have hB9 : ∀ h1, (z_C h1 hs se sf s s1 nx kp rw ic fi lc fl ∧ q_zone h h1 100 115) → h1.2 223 = some (.inl (4, 1, .inr (.inl f))) := fun h1 hb => (hb.2.2 _ (by omega) (by omega)).trans c223
  refine q_invSH (mc' := 3) (ms' := 18) (d' := d - 1) (as := [.ref 100, .int ((g.2.2.2.2.2.2 (i + 1))), .int ((g.2.2.2.2.2.2 (i + 2))), .ref 223]) dL_law_1288 kM_L_isSuccessful kL_L_228 kT_L_isSuccessful rfl rfl rfl (Nat.le_of_ble_eq_true rfl) (by omega) (by decide) (by omega) (by omega) (e_L_isSuccessful (d := d - 1) (dd := d - 2) w.1.c0 hB9 ho9 (c_isSuccessful (g := g) (h := h) (d := d - 2) w (g.2.2.2.2.2.2 (i + 1)) (g.2.2.2.2.2.2 (i + 2)) (by omega)) (by omega)) (q_kC (fun h1 hB => ?_)) q_xC
  obtain ⟨h0, ⟨wc1, q1⟩, e9⟩ := hB
  obtain ⟨f2, c223b, hf2⟩ := z_outL_c (o := q_oB ((x_am_isSuccessful s.1 s.2.1 s.2.2.2.2.1 s.2.2.2.2.2.1 (g.2.2.2.2.2.2 (i + 1)) (g.2.2.2.2.2.2 (i + 2))))) (hB9 h0 ⟨wc1, q1⟩)
  have qs : q_same h0 h1 223 1 := e9 ▸ z_outL_same
  rw [← e9] at c223b
  clear e9
  have hz : 225 ≤ h.1 := w.2.2.2.2.2.2.2.2.2.s0
  have hz0 : h.1 ≤ h0.1 := q1.1
  have c224b : h1.2 224 = _ := (qs.2 _ (by omega) (by omega)).trans ((q1.2 _ (by omega) (by omega)).trans c224)
  have w1 := wc1.keep (qs.wide (by omega) (by omega))
  have m1 := m.keepI (h1 := h1) (Nat.le_trans q1.1 qs.1) (fun j b1 b2 => (qs.2 j (by omega) (by omega)).trans (q1.2 j (by omega) (by omega)))
  clear wc1 hB9 ho9 m
  change q_W _ _ _ _ _ _ _ _ 1291 [.ref 0, .ref 100, .ref 215, .ref 223, .ref 224, .int (nI i), q_u, q_u, q_u] [.int (z_cd [("java/util/NoSuchElementException", 1)] (q_oB ((x_am_isSuccessful s.1 s.2.1 s.2.2.2.2.1 s.2.2.2.2.2.1 (g.2.2.2.2.2.2 (i + 1)) (g.2.2.2.2.2.2 (i + 2))))))] h1
  rw [hcd]
  refine q_istore dL_law_1291 (by decide) rfl ?_
  change q_W _ _ _ _ _ _ _ _ 1293 [.ref 0, .ref 100, .ref 215, .ref 223, .ref 224, .int (nI i), .int ((x_mo_isSuccessful al s.1 (g.2.2.2.2.2.2 (i + 1)) (g.2.2.2.2.2.2 (i + 2))).2), q_u, q_u] [] h1
  refine q_aload_n (by first | assumption | (rw [q_R0e]; omega)) dL_law_1293 rfl ?_
  refine q_aload_nO ho dL_law_1294 rfl ?_
  refine q_iload dL_law_1295 rfl ?_
  refine q_iconst (v := 1) dL_law_1297 rfl ?_
  refine q_iaddN (a := i) (b := 1) dL_law_1298 ?_
  refine q_taldIN (by decide) dL_law_1299 (rfl : q_ar g 0 = _) (by omega) hN ?_
  change q_W _ _ _ _ _ _ _ _ _ _ [.int (g.2.2.2.2.2.2 (i + 1)), .ref 215] _
  refine q_aload_nO ho dL_law_1300 rfl ?_
  refine q_iload dL_law_1301 rfl ?_
  refine q_iconst (v := 2) dL_law_1303 rfl ?_
  refine q_iaddN (a := i) (b := 2) dL_law_1304 ?_
  refine q_taldIN (by decide) dL_law_1305 (rfl : q_ar g 0 = _) (by omega) hN ?_
  change q_W _ _ _ _ _ _ _ _ _ _ [.int (g.2.2.2.2.2.2 (i + 2)), .int ((g.2.2.2.2.2.2 (i + 1))), .ref 215] _
  refine q_invV (mc' := 0) (ms' := 0) (d' := d - 1) (as := [.int ((g.2.2.2.2.2.2 (i + 1))), .int ((g.2.2.2.2.2.2 (i + 2)))]) dL_law_1306 kM_X11_isSuccessful kL_L_230 kI_X11_isSuccessful kS_X11_isSuccessful rfl (kC_X11.1) m1.c0 rfl rfl (Nat.le_of_ble_eq_true rfl) (by omega) (by decide) (by omega) (by omega) (r_isSuccessful (g := g) (d := d - 1) m1 e0 hn e3 hm (g.2.2.2.2.2.2 (i + 1)) (g.2.2.2.2.2.2 (i + 2)) (by omega)) (q_kC (fun h3 hB3 => ?_)) q_xC
  obtain ⟨m3, q3⟩ := hB3
  obtain ⟨rs3, ac3, rj3, ro3, bf3, he3, er3, cm3, cn3, m3⟩ := m3
  change q_W _ _ _ _ _ _ _ _ 1309 [.ref 0, .ref 100, .ref 215, .ref 223, .ref 224, .int (nI i), .int ((x_mo_isSuccessful al s.1 (g.2.2.2.2.2.2 (i + 1)) (g.2.2.2.2.2.2 (i + 2))).2), q_u, q_u] [.int (z_b ((x_mo_isSuccessful al s.1 (g.2.2.2.2.2.2 (i + 1)) (g.2.2.2.2.2.2 (i + 2))).1))] h3
  refine q_istore dL_law_1309 (by decide) rfl ?_
  change q_W _ _ _ _ _ _ _ _ 1311 [.ref 0, .ref 100, .ref 215, .ref 223, .ref 224, .int (nI i), .int ((x_mo_isSuccessful al s.1 (g.2.2.2.2.2.2 (i + 1)) (g.2.2.2.2.2.2 (i + 2))).2), .int (z_b ((x_mo_isSuccessful al s.1 (g.2.2.2.2.2.2 (i + 1)) (g.2.2.2.2.2.2 (i + 2))).1)), q_u] [] h3
  refine q_aload_n (by first | assumption | (rw [q_R0e]; omega)) dL_law_1311 rfl ?_
  refine q_invV (mc' := 0) (ms' := 0) (d' := d - 1) (as := []) dL_law_1312 kM_X11_thrown kL_L_166 kI_X11_thrown kS_X11_thrown rfl (kC_X11.1) m3.c0 rfl rfl (Nat.le_of_ble_eq_true rfl) (by omega) (by decide) (by omega) (by omega) (e_mo_thrownR (d := d - 1) m3 (by omega)) (q_kR ?_) q_xR
  change q_W _ _ _ _ _ _ _ _ 1315 [.ref 0, .ref 100, .ref 215, .ref 223, .ref 224, .int (nI i), .int ((x_mo_isSuccessful al s.1 (g.2.2.2.2.2.2 (i + 1)) (g.2.2.2.2.2.2 (i + 2))).2), .int (z_b ((x_mo_isSuccessful al s.1 (g.2.2.2.2.2.2 (i + 1)) (g.2.2.2.2.2.2 (i + 2))).1)), q_u] [.int ((x_mo_isSuccessful al s.1 (g.2.2.2.2.2.2 (i + 1)) (g.2.2.2.2.2.2 (i + 2))).2)] h3
  refine q_iload dL_law_1315 rfl ?_
  refine q_icmp_eq 1322 dL_law_1317 (by decide) (fun _ => ?_) (fun b => absurd rfl b)
  refine q_iload dL_law_1322 rfl ?_
  have hz3 : h1.1 ≤ h3.1 := q3.1
  have hz4 : h0.1 ≤ h1.1 := qs.1
  have fin : q_W g mL_law d mc ms Q (kc + 3) (ks + 18) 1346 [.ref 0, .ref 100, .ref 215, .ref 223, .ref 224, .int (nI i), .int ((x_mo_isSuccessful al s.1 (g.2.2.2.2.2.2 (i + 1)) (g.2.2.2.2.2.2 (i + 2))).2), .int (z_b ((x_mo_isSuccessful al s.1 (g.2.2.2.2.2.2 (i + 1)) (g.2.2.2.2.2.2 (i + 2))).1)), q_u] [] h3 := by
    refine q_goto 2985 dL_law_1346 (by decide) ?_
    refine q_forget 6 ?_
    refine q_forget 7 ?_
    change q_W _ _ _ _ _ _ _ _ 2985 [.ref 0, .ref 100, .ref 215, .ref 223, .ref 224, .int (nI i), q_u, q_u, q_u] [] h3
    exact q_widen (by omega) (by omega) (K h3 ⟨_, _, _, _, _, _, _, _, _, _, _, _, _, _, _, _, _, _, _, _, _, _, w1.keep (q3.wide (by omega) (by omega)), ⟨_, ⟨_, _, _, _, _, _, _, _, _, m3⟩⟩, ⟨_, (q3.2 _ (by omega) (by omega)).trans c223b⟩, ⟨_, (q3.2 _ (by omega) (by omega)).trans c224b⟩, J2⟩)
  refine q_if_ne 1346 dL_law_1324 (by decide) (fun _ => fin) (fun b => ?_)
  have eo9 : (q_oB ((x_am_isSuccessful s.1 s.2.1 s.2.2.2.2.1 s.2.2.2.2.2.1 (g.2.2.2.2.2.2 (i + 1)) (g.2.2.2.2.2.2 (i + 2))))) = .inl (some (.int (z_b ((x_mo_isSuccessful al s.1 (g.2.2.2.2.2.2 (i + 1)) (g.2.2.2.2.2.2 (i + 2))).1)))) := by
    rcases ag with ⟨et, eo⟩ | ⟨et, eo⟩
    · exact absurd (et.symm.trans b) (by decide)
    · exact eo
  have ev := hf2 _ eo9
  refine q_aload_n (by first | assumption | (rw [q_R0e]; omega)) dL_law_1327 rfl ?_
  refine q_iconst (v := 0) dL_law_1328 rfl ?_
  refine q_lald (f := f2) dL_law_1329 ((q3.2 _ (by omega) (by omega)).trans c223b) (vp_in_nI (n := 0) (N := 1) (by decide) (by decide)) ?_
  change q_W _ _ _ _ _ _ _ _ _ _ [.long (f2 0)] _
  rw [ev]
  refine q_iload dL_law_1330 rfl ?_
  have hlc : q_W g mL_law d mc ms Q (kc + 3) (ks + 18) 1340 [.ref 0, .ref 100, .ref 215, .ref 223, .ref 224, .int (nI i), .int ((x_mo_isSuccessful al s.1 (g.2.2.2.2.2.2 (i + 1)) (g.2.2.2.2.2.2 (i + 2))).2), .int (z_b ((x_mo_isSuccessful al s.1 (g.2.2.2.2.2.2 (i + 1)) (g.2.2.2.2.2.2 (i + 2))).1)), q_u] [.long (z_b ((x_mo_isSuccessful al s.1 (g.2.2.2.2.2.2 (i + 1)) (g.2.2.2.2.2.2 (i + 2))).1)).toInt64, .long (z_b ((x_mo_isSuccessful al s.1 (g.2.2.2.2.2.2 (i + 1)) (g.2.2.2.2.2.2 (i + 2))).1)).toInt64] h3 := by
    refine q_lcmp dL_law_1340 ?_
    rw [z_lcmp]
    exact q_if_eq 1346 dL_law_1341 (by decide) (fun _ => fin) (fun b => absurd rfl b)
  revert hlc
  cases (x_mo_isSuccessful al s.1 (g.2.2.2.2.2.2 (i + 1)) (g.2.2.2.2.2.2 (i + 2))).1 with
  | false =>
    intro hlc
    refine q_if_eq 1339 dL_law_1332 (by decide) (fun _ => ?_) (fun b => absurd rfl b)
    exact q_lconst (v := 0) dL_law_1339 (by decide) hlc
  | true =>
    intro hlc
    refine q_if_eq 1339 dL_law_1332 (by decide) (fun b => absurd b (by decide)) (fun _ => ?_)
    refine q_lconst (v := 1) dL_law_1335 (by decide) ?_
    exact q_goto 1340 dL_law_1336 (by decide) hlc
set_option maxRecDepth 100000 in
set_option maxHeartbeats 4000000 in
theorem l_c_successfulCount {g : q_G} {h : q_H} {d mc ms kc ks i t : Nat} {Q : q_O → q_H → Prop} (hP : z_P_successfulCount) (hI : z_I t h) (ht : t < 512) (hi : i + 2 < g.2.2.2.2.2.1) (hN : g.2.2.2.2.2.1 < 2 ^ 31) (ho : q_isold g 0) (hd : 26 ≤ d) (hkc : kc + 66 ≤ mc) (hks : ks + 10588 ≤ ms) (K : ∀ h2, z_I (t + 1) h2 → q_W g mL_law d mc ms Q (kc + 66) (ks + 10588) 2985 [.ref 0, .ref 100, .ref 215, .ref 223, .ref 224, .int (nI i), q_u, q_u, q_u] [] h2) : q_W g mL_law d mc ms Q kc ks 1349 [.ref 0, .ref 100, .ref 215, .ref 223, .ref 224, .int (nI i), q_u, q_u, q_u] [] h := by
  obtain ⟨hs, se, sf, s, s1, nx, kp, rw, ic, fi, lc, fl, al, cg, sv, ad, ln, lz, ip, ty, ea, fa, wc, ⟨th, wm⟩, ⟨f, c223⟩, ⟨fd, c224⟩, J⟩ := hI
  obtain ⟨s2, ca, cj, co, won, lost, pf, cv, sc, pc, pp, po, vb, oa, ob, w⟩ := wc
  obtain ⟨rs, ac, rj, ro, bf, he, er, cm, cn, m⟩ := wm
  obtain ⟨e0, hn, e3, hm⟩ := J.n0
  obtain ⟨ag, J2⟩ := hP t hs se sf s s1 nx kp rw ic fi lc fl al cg sv ad ln lz ip ty ea fa   ht J
  refine q_aload_n (by first | assumption | (rw [q_R0e]; omega)) dL_law_1349 rfl ?_
  refine q_invV (mc' := 0) (ms' := 0) (d' := d - 1) (as := []) dL_law_1350 kM_X10_successfulCount kL_L_231 kI_X10_successfulCount kS_X10_successfulCount rfl (kC_X10.1) w.1.c0 rfl rfl (Nat.le_of_ble_eq_true rfl) (by omega) (by decide) (by omega) (by omega) (c_successfulCount (g := g) (h := h) (d := d - 1) w (by omega)) (q_kC (fun h1 hB => ?_)) q_xC
  obtain ⟨w1, q1⟩ := hB
  have hz : 225 ≤ h.1 := w.2.2.2.2.2.2.2.2.2.s0
  have hz0 : h.1 ≤ h1.1 := q1.1
  have m1 := m.keepI (h1 := h1) q1.1 (fun j b1 b2 => q1.2 j (by omega) (by omega))
  have c223b := (q1.2 _ (by omega) (by omega)).trans c223
  have c224b := (q1.2 _ (by omega) (by omega)).trans c224
  change q_W _ _ _ _ _ _ _ _ 1353 [.ref 0, .ref 100, .ref 215, .ref 223, .ref 224, .int (nI i), q_u, q_u, q_u] [.int ((x_am_successfulCount s.1 s.2.2.2.2.2.1))] h1
  rw [ag]
  refine q_aload_n (by first | assumption | (rw [q_R0e]; omega)) dL_law_1353 rfl ?_
  refine q_invV (mc' := 0) (ms' := 0) (d' := d - 1) (as := []) dL_law_1354 kM_X11_successfulCount kL_L_234 kI_X11_successfulCount kS_X11_successfulCount rfl (kC_X11.1) m1.c0 rfl rfl (Nat.le_of_ble_eq_true rfl) (by omega) (by decide) (by omega) (by omega) (r_successfulCount (g := g) (d := d - 1) m1 e0 hn e3 hm (by omega)) (q_kC (fun h3 hB3 => ?_)) q_xC
  obtain ⟨m3, q3⟩ := hB3
  change q_W _ _ _ _ _ _ _ _ 1357 [.ref 0, .ref 100, .ref 215, .ref 223, .ref 224, .int (nI i), q_u, q_u, q_u] [.int ((x_mo_successfulCount al s.1).1), .int ((x_mo_successfulCount al s.1).1)] h3
  refine q_icmp_eq 2985 dL_law_1357 (by decide) (fun _ => ?_) (fun b => absurd rfl b)
  exact q_widen (by omega) (by omega) (K h3 ⟨_, _, _, _, _, _, _, _, _, _, _, _, _, _, _, _, _, _, _, _, _, _, w1.keep (q3.wide (by omega) (by omega)), ⟨_, m3⟩, ⟨_, (q3.2 _ (by omega) (by omega)).trans c223b⟩, ⟨_, (q3.2 _ (by omega) (by omega)).trans c224b⟩, J2⟩)
set_option maxRecDepth 100000 in
set_option maxHeartbeats 4000000 in
theorem l_c_attackerCount {g : q_G} {h : q_H} {d mc ms kc ks i t : Nat} {Q : q_O → q_H → Prop} (hP : z_P_attackerCount) (hI : z_I t h) (ht : t < 512) (hi : i + 2 < g.2.2.2.2.2.1) (hN : g.2.2.2.2.2.1 < 2 ^ 31) (ho : q_isold g 0) (hd : 26 ≤ d) (hkc : kc + 66 ≤ mc) (hks : ks + 10588 ≤ ms) (K : ∀ h2, z_I (t + 1) h2 → q_W g mL_law d mc ms Q (kc + 66) (ks + 10588) 2985 [.ref 0, .ref 100, .ref 215, .ref 223, .ref 224, .int (nI i), q_u, q_u, q_u] [] h2) : q_W g mL_law d mc ms Q kc ks 1362 [.ref 0, .ref 100, .ref 215, .ref 223, .ref 224, .int (nI i), q_u, q_u, q_u] [] h := by
  obtain ⟨hs, se, sf, s, s1, nx, kp, rw, ic, fi, lc, fl, al, cg, sv, ad, ln, lz, ip, ty, ea, fa, wc, ⟨th, wm⟩, ⟨f, c223⟩, ⟨fd, c224⟩, J⟩ := hI
  obtain ⟨s2, ca, cj, co, won, lost, pf, cv, sc, pc, pp, po, vb, oa, ob, w⟩ := wc
  obtain ⟨rs, ac, rj, ro, bf, he, er, cm, cn, m⟩ := wm
  obtain ⟨e0, hn, e3, hm⟩ := J.n0
  obtain ⟨ag, J2⟩ := hP t hs se sf s s1 nx kp rw ic fi lc fl al cg sv ad ln lz ip ty ea fa  (g.2.2.2.2.2.2 (i + 1)) ht J
  refine q_aload_n (by first | assumption | (rw [q_R0e]; omega)) dL_law_1362 rfl ?_
  refine q_aload_nO ho dL_law_1363 rfl ?_
  refine q_iload dL_law_1364 rfl ?_
  refine q_iconst (v := 1) dL_law_1366 rfl ?_
  refine q_iaddN (a := i) (b := 1) dL_law_1367 ?_
  refine q_taldIN (by decide) dL_law_1368 (rfl : q_ar g 0 = _) (by omega) hN ?_
  change q_W _ _ _ _ _ _ _ _ _ _ [.int (g.2.2.2.2.2.2 (i + 1)), .ref 100] _
  refine q_aload_n (by first | assumption | (rw [q_R0e]; omega)) dL_law_1369 rfl ?_
  have ho9 : (∃ v, (q_oI ((x_am_attackerCount s.1 s.2.1 s.2.2.2.2.2.1 (g.2.2.2.2.2.2 (i + 1))))) = .inl (some (.int v))) ∨ (q_oI ((x_am_attackerCount s.1 s.2.1 s.2.2.2.2.2.1 (g.2.2.2.2.2.2 (i + 1))))) = .inr "java/util/NoSuchElementException" := by
    rcases ag with ⟨et, eo⟩ | ⟨et, eo⟩
    · exact Or.inr (eo)
    · exact Or.inl ⟨_, eo⟩
  have hcd : z_cd [("java/util/NoSuchElementException", 1)] (q_oI ((x_am_attackerCount s.1 s.2.1 s.2.2.2.2.2.1 (g.2.2.2.2.2.2 (i + 1))))) = (x_mo_attackerCount al s.1 (g.2.2.2.2.2.2 (i + 1))).2 := by
    rcases ag with ⟨et, eo⟩ | ⟨et, eo⟩
    · rw [et, eo]; rfl
    · rw [et, eo]; rfl
  have hB9 : ∀ h1, (z_C h1 hs se sf s s1 nx kp rw ic fi lc fl ∧ q_zone h h1 100 115) → h1.2 223 = some (.inl (4, 1, .inr (.inl f))) := fun h1 hb => (hb.2.2 _ (by omega) (by omega)).trans c223
  refine q_invSH (mc' := 1) (ms' := 6) (d' := d - 1) (as := [.ref 100, .int ((g.2.2.2.2.2.2 (i + 1))), .ref 223]) dL_law_1370 kM_L_attackerCount kL_L_235 kT_L_attackerCount rfl rfl rfl (Nat.le_of_ble_eq_true rfl) (by omega) (by decide) (by omega) (by omega) (e_L_attackerCount (d := d - 1) (dd := d - 2) w.1.c0 hB9 ho9 (c_attackerCount (g := g) (h := h) (d := d - 2) w (g.2.2.2.2.2.2 (i + 1)) (by omega)) (by omega)) (q_kC (fun h1 hB => ?_)) q_xC
  obtain ⟨h0, ⟨wc1, q1⟩, e9⟩ := hB
  obtain ⟨f2, c223b, hf2⟩ := z_outL_c (o := q_oI ((x_am_attackerCount s.1 s.2.1 s.2.2.2.2.2.1 (g.2.2.2.2.2.2 (i + 1))))) (hB9 h0 ⟨wc1, q1⟩)
  have qs : q_same h0 h1 223 1 := e9 ▸ z_outL_same
  rw [← e9] at c223b
  clear e9
  have hz : 225 ≤ h.1 := w.2.2.2.2.2.2.2.2.2.s0
  have hz0 : h.1 ≤ h0.1 := q1.1
  have c224b : h1.2 224 = _ := (qs.2 _ (by omega) (by omega)).trans ((q1.2 _ (by omega) (by omega)).trans c224)
  have w1 := wc1.keep (qs.wide (by omega) (by omega))
  have m1 := m.keepI (h1 := h1) (Nat.le_trans q1.1 qs.1) (fun j b1 b2 => (qs.2 j (by omega) (by omega)).trans (q1.2 j (by omega) (by omega)))
  clear wc1 hB9 ho9 m
  change q_W _ _ _ _ _ _ _ _ 1373 [.ref 0, .ref 100, .ref 215, .ref 223, .ref 224, .int (nI i), q_u, q_u, q_u] [.int (z_cd [("java/util/NoSuchElementException", 1)] (q_oI ((x_am_attackerCount s.1 s.2.1 s.2.2.2.2.2.1 (g.2.2.2.2.2.2 (i + 1))))))] h1
  rw [hcd]
  refine q_istore dL_law_1373 (by decide) rfl ?_
  change q_W _ _ _ _ _ _ _ _ 1375 [.ref 0, .ref 100, .ref 215, .ref 223, .ref 224, .int (nI i), .int ((x_mo_attackerCount al s.1 (g.2.2.2.2.2.2 (i + 1))).2), q_u, q_u] [] h1
  refine q_aload_n (by first | assumption | (rw [q_R0e]; omega)) dL_law_1375 rfl ?_
  refine q_aload_nO ho dL_law_1376 rfl ?_
  refine q_iload dL_law_1377 rfl ?_
  refine q_iconst (v := 1) dL_law_1379 rfl ?_
  refine q_iaddN (a := i) (b := 1) dL_law_1380 ?_
  refine q_taldIN (by decide) dL_law_1381 (rfl : q_ar g 0 = _) (by omega) hN ?_
  change q_W _ _ _ _ _ _ _ _ _ _ [.int (g.2.2.2.2.2.2 (i + 1)), .ref 215] _
  refine q_invV (mc' := 0) (ms' := 0) (d' := d - 1) (as := [.int ((g.2.2.2.2.2.2 (i + 1)))]) dL_law_1382 kM_X11_attackerCount kL_L_237 kI_X11_attackerCount kS_X11_attackerCount rfl (kC_X11.1) m1.c0 rfl rfl (Nat.le_of_ble_eq_true rfl) (by omega) (by decide) (by omega) (by omega) (r_attackerCount (g := g) (d := d - 1) m1 e0 hn e3 hm (g.2.2.2.2.2.2 (i + 1)) (by omega)) (q_kC (fun h3 hB3 => ?_)) q_xC
  obtain ⟨m3, q3⟩ := hB3
  obtain ⟨rs3, ac3, rj3, ro3, bf3, he3, er3, cm3, cn3, m3⟩ := m3
  change q_W _ _ _ _ _ _ _ _ 1385 [.ref 0, .ref 100, .ref 215, .ref 223, .ref 224, .int (nI i), .int ((x_mo_attackerCount al s.1 (g.2.2.2.2.2.2 (i + 1))).2), q_u, q_u] [.int ((x_mo_attackerCount al s.1 (g.2.2.2.2.2.2 (i + 1))).1)] h3
  refine q_istore dL_law_1385 (by decide) rfl ?_
  change q_W _ _ _ _ _ _ _ _ 1387 [.ref 0, .ref 100, .ref 215, .ref 223, .ref 224, .int (nI i), .int ((x_mo_attackerCount al s.1 (g.2.2.2.2.2.2 (i + 1))).2), .int ((x_mo_attackerCount al s.1 (g.2.2.2.2.2.2 (i + 1))).1), q_u] [] h3
  refine q_aload_n (by first | assumption | (rw [q_R0e]; omega)) dL_law_1387 rfl ?_
  refine q_invV (mc' := 0) (ms' := 0) (d' := d - 1) (as := []) dL_law_1388 kM_X11_thrown kL_L_166 kI_X11_thrown kS_X11_thrown rfl (kC_X11.1) m3.c0 rfl rfl (Nat.le_of_ble_eq_true rfl) (by omega) (by decide) (by omega) (by omega) (e_mo_thrownR (d := d - 1) m3 (by omega)) (q_kR ?_) q_xR
  change q_W _ _ _ _ _ _ _ _ 1391 [.ref 0, .ref 100, .ref 215, .ref 223, .ref 224, .int (nI i), .int ((x_mo_attackerCount al s.1 (g.2.2.2.2.2.2 (i + 1))).2), .int ((x_mo_attackerCount al s.1 (g.2.2.2.2.2.2 (i + 1))).1), q_u] [.int ((x_mo_attackerCount al s.1 (g.2.2.2.2.2.2 (i + 1))).2)] h3
  refine q_iload dL_law_1391 rfl ?_
  refine q_icmp_eq 1398 dL_law_1393 (by decide) (fun _ => ?_) (fun b => absurd rfl b)
  refine q_iload dL_law_1398 rfl ?_
  have hz3 : h1.1 ≤ h3.1 := q3.1
  have hz4 : h0.1 ≤ h1.1 := qs.1
  have fin : q_W g mL_law d mc ms Q (kc + 1) (ks + 6) 1415 [.ref 0, .ref 100, .ref 215, .ref 223, .ref 224, .int (nI i), .int ((x_mo_attackerCount al s.1 (g.2.2.2.2.2.2 (i + 1))).2), .int ((x_mo_attackerCount al s.1 (g.2.2.2.2.2.2 (i + 1))).1), q_u] [] h3 := by
    refine q_goto 2985 dL_law_1415 (by decide) ?_
    refine q_forget 6 ?_
    refine q_forget 7 ?_
    change q_W _ _ _ _ _ _ _ _ 2985 [.ref 0, .ref 100, .ref 215, .ref 223, .ref 224, .int (nI i), q_u, q_u, q_u] [] h3
    exact q_widen (by omega) (by omega) (K h3 ⟨_, _, _, _, _, _, _, _, _, _, _, _, _, _, _, _, _, _, _, _, _, _, w1.keep (q3.wide (by omega) (by omega)), ⟨_, ⟨_, _, _, _, _, _, _, _, _, m3⟩⟩, ⟨_, (q3.2 _ (by omega) (by omega)).trans c223b⟩, ⟨_, (q3.2 _ (by omega) (by omega)).trans c224b⟩, J2⟩)
  refine q_if_ne 1415 dL_law_1400 (by decide) (fun _ => fin) (fun b => ?_)
  have eo9 : (q_oI ((x_am_attackerCount s.1 s.2.1 s.2.2.2.2.2.1 (g.2.2.2.2.2.2 (i + 1))))) = .inl (some (.int ((x_mo_attackerCount al s.1 (g.2.2.2.2.2.2 (i + 1))).1))) := by
    rcases ag with ⟨et, eo⟩ | ⟨et, eo⟩
    · exact absurd (et.symm.trans b) (by decide)
    · exact eo
  have ev := hf2 _ eo9
  refine q_aload_n (by first | assumption | (rw [q_R0e]; omega)) dL_law_1403 rfl ?_
  refine q_iconst (v := 0) dL_law_1404 rfl ?_
  refine q_lald (f := f2) dL_law_1405 ((q3.2 _ (by omega) (by omega)).trans c223b) (vp_in_nI (n := 0) (N := 1) (by decide) (by decide)) ?_
  change q_W _ _ _ _ _ _ _ _ _ _ [.long (f2 0)] _
  rw [ev]
  refine q_iload dL_law_1406 rfl ?_
  refine q_i2l dL_law_1408 rfl ?_
  refine q_lcmp dL_law_1409 ?_
  rw [z_lcmp]
  exact q_if_eq 1415 dL_law_1410 (by decide) (fun _ => fin) (fun b => absurd rfl b)
set_option maxRecDepth 100000 in
set_option maxHeartbeats 4000000 in
theorem l_c_attackerAt {g : q_G} {h : q_H} {d mc ms kc ks i t : Nat} {Q : q_O → q_H → Prop} (hP : z_P_attackerAt) (hI : z_I t h) (ht : t < 512) (hi : i + 2 < g.2.2.2.2.2.1) (hN : g.2.2.2.2.2.1 < 2 ^ 31) (ho : q_isold g 0) (hd : 26 ≤ d) (hkc : kc + 66 ≤ mc) (hks : ks + 10588 ≤ ms) (K : ∀ h2, z_I (t + 1) h2 → q_W g mL_law d mc ms Q (kc + 66) (ks + 10588) 2985 [.ref 0, .ref 100, .ref 215, .ref 223, .ref 224, .int (nI i), q_u, q_u, q_u] [] h2) : q_W g mL_law d mc ms Q kc ks 1418 [.ref 0, .ref 100, .ref 215, .ref 223, .ref 224, .int (nI i), q_u, q_u, q_u] [] h := by
  obtain ⟨hs, se, sf, s, s1, nx, kp, rw, ic, fi, lc, fl, al, cg, sv, ad, ln, lz, ip, ty, ea, fa, wc, ⟨th, wm⟩, ⟨f, c223⟩, ⟨fd, c224⟩, J⟩ := hI
  obtain ⟨s2, ca, cj, co, won, lost, pf, cv, sc, pc, pp, po, vb, oa, ob, w⟩ := wc
  obtain ⟨rs, ac, rj, ro, bf, he, er, cm, cn, m⟩ := wm
  obtain ⟨e0, hn, e3, hm⟩ := J.n0
  obtain ⟨ag, J2⟩ := hP t hs se sf s s1 nx kp rw ic fi lc fl al cg sv ad ln lz ip ty ea fa  (g.2.2.2.2.2.2 (i + 1)) (g.2.2.2.2.2.2 (i + 2)) ht J
  refine q_aload_n (by first | assumption | (rw [q_R0e]; omega)) dL_law_1418 rfl ?_
  refine q_aload_nO ho dL_law_1419 rfl ?_
  refine q_iload dL_law_1420 rfl ?_
  refine q_iconst (v := 1) dL_law_1422 rfl ?_
  refine q_iaddN (a := i) (b := 1) dL_law_1423 ?_
  refine q_taldIN (by decide) dL_law_1424 (rfl : q_ar g 0 = _) (by omega) hN ?_
  change q_W _ _ _ _ _ _ _ _ _ _ [.int (g.2.2.2.2.2.2 (i + 1)), .ref 100] _
  refine q_aload_nO ho dL_law_1425 rfl ?_
  refine q_iload dL_law_1426 rfl ?_
  refine q_iconst (v := 2) dL_law_1428 rfl ?_
  refine q_iaddN (a := i) (b := 2) dL_law_1429 ?_
  refine q_taldIN (by decide) dL_law_1430 (rfl : q_ar g 0 = _) (by omega) hN ?_
  change q_W _ _ _ _ _ _ _ _ _ _ [.int (g.2.2.2.2.2.2 (i + 2)), .int ((g.2.2.2.2.2.2 (i + 1))), .ref 100] _
  refine q_aload_n (by first | assumption | (rw [q_R0e]; omega)) dL_law_1431 rfl ?_
  have ho9 : (∃ v, (q_oI ((x_am_attackerAt s.1 s.2.1 s.2.2.2.2.2.1 (g.2.2.2.2.2.2 (i + 1)) (g.2.2.2.2.2.2 (i + 2))))) = .inl (some (.int v))) ∨ (q_oI ((x_am_attackerAt s.1 s.2.1 s.2.2.2.2.2.1 (g.2.2.2.2.2.2 (i + 1)) (g.2.2.2.2.2.2 (i + 2))))) = .inr "java/util/NoSuchElementException" ∨ (q_oI ((x_am_attackerAt s.1 s.2.1 s.2.2.2.2.2.1 (g.2.2.2.2.2.2 (i + 1)) (g.2.2.2.2.2.2 (i + 2))))) = .inr "java/lang/IndexOutOfBoundsException" := by
    rcases ag with ⟨et, eo⟩ | ⟨et, eo⟩ | ⟨et, eo⟩
    · exact Or.inr (Or.inl eo)
    · exact Or.inr (Or.inr (eo))
    · exact Or.inl ⟨_, eo⟩
  have hcd : z_cd [("java/util/NoSuchElementException", 1), ("java/lang/IndexOutOfBoundsException", 2)] (q_oI ((x_am_attackerAt s.1 s.2.1 s.2.2.2.2.2.1 (g.2.2.2.2.2.2 (i + 1)) (g.2.2.2.2.2.2 (i + 2))))) = (x_mo_attackerAt al s.1 (g.2.2.2.2.2.2 (i + 1)) (g.2.2.2.2.2.2 (i + 2))).2 := by
    rcases ag with ⟨et, eo⟩ | ⟨et, eo⟩ | ⟨et, eo⟩
    · rw [et, eo]; rfl
    · rw [et, eo]; rfl
    · rw [et, eo]; rfl
  have hB9 : ∀ h1, (z_C h1 hs se sf s s1 nx kp rw ic fi lc fl ∧ q_zone h h1 100 115) → h1.2 223 = some (.inl (4, 1, .inr (.inl f))) := fun h1 hb => (hb.2.2 _ (by omega) (by omega)).trans c223
  refine q_invSH (mc' := 2) (ms' := 12) (d' := d - 1) (as := [.ref 100, .int ((g.2.2.2.2.2.2 (i + 1))), .int ((g.2.2.2.2.2.2 (i + 2))), .ref 223]) dL_law_1432 kM_L_attackerAt kL_L_238 kT_L_attackerAt rfl rfl rfl (Nat.le_of_ble_eq_true rfl) (by omega) (by decide) (by omega) (by omega) (e_L_attackerAt (d := d - 1) (dd := d - 2) w.1.c0 hB9 ho9 (c_attackerAt (g := g) (h := h) (d := d - 2) w (g.2.2.2.2.2.2 (i + 1)) (g.2.2.2.2.2.2 (i + 2)) (by omega)) (by omega)) (q_kC (fun h1 hB => ?_)) q_xC
  obtain ⟨h0, ⟨wc1, q1⟩, e9⟩ := hB
  obtain ⟨f2, c223b, hf2⟩ := z_outL_c (o := q_oI ((x_am_attackerAt s.1 s.2.1 s.2.2.2.2.2.1 (g.2.2.2.2.2.2 (i + 1)) (g.2.2.2.2.2.2 (i + 2))))) (hB9 h0 ⟨wc1, q1⟩)
  have qs : q_same h0 h1 223 1 := e9 ▸ z_outL_same
  rw [← e9] at c223b
  clear e9
  have hz : 225 ≤ h.1 := w.2.2.2.2.2.2.2.2.2.s0
  have hz0 : h.1 ≤ h0.1 := q1.1
  have c224b : h1.2 224 = _ := (qs.2 _ (by omega) (by omega)).trans ((q1.2 _ (by omega) (by omega)).trans c224)
  have w1 := wc1.keep (qs.wide (by omega) (by omega))
  have m1 := m.keepI (h1 := h1) (Nat.le_trans q1.1 qs.1) (fun j b1 b2 => (qs.2 j (by omega) (by omega)).trans (q1.2 j (by omega) (by omega)))
  clear wc1 hB9 ho9 m
  change q_W _ _ _ _ _ _ _ _ 1435 [.ref 0, .ref 100, .ref 215, .ref 223, .ref 224, .int (nI i), q_u, q_u, q_u] [.int (z_cd [("java/util/NoSuchElementException", 1), ("java/lang/IndexOutOfBoundsException", 2)] (q_oI ((x_am_attackerAt s.1 s.2.1 s.2.2.2.2.2.1 (g.2.2.2.2.2.2 (i + 1)) (g.2.2.2.2.2.2 (i + 2))))))] h1
  rw [hcd]
  refine q_istore dL_law_1435 (by decide) rfl ?_
  change q_W _ _ _ _ _ _ _ _ 1437 [.ref 0, .ref 100, .ref 215, .ref 223, .ref 224, .int (nI i), .int ((x_mo_attackerAt al s.1 (g.2.2.2.2.2.2 (i + 1)) (g.2.2.2.2.2.2 (i + 2))).2), q_u, q_u] [] h1
  refine q_aload_n (by first | assumption | (rw [q_R0e]; omega)) dL_law_1437 rfl ?_
  refine q_aload_nO ho dL_law_1438 rfl ?_
  refine q_iload dL_law_1439 rfl ?_
  refine q_iconst (v := 1) dL_law_1441 rfl ?_
  refine q_iaddN (a := i) (b := 1) dL_law_1442 ?_
  refine q_taldIN (by decide) dL_law_1443 (rfl : q_ar g 0 = _) (by omega) hN ?_
  change q_W _ _ _ _ _ _ _ _ _ _ [.int (g.2.2.2.2.2.2 (i + 1)), .ref 215] _
  refine q_aload_nO ho dL_law_1444 rfl ?_
  refine q_iload dL_law_1445 rfl ?_
  refine q_iconst (v := 2) dL_law_1447 rfl ?_
  refine q_iaddN (a := i) (b := 2) dL_law_1448 ?_
  refine q_taldIN (by decide) dL_law_1449 (rfl : q_ar g 0 = _) (by omega) hN ?_
  change q_W _ _ _ _ _ _ _ _ _ _ [.int (g.2.2.2.2.2.2 (i + 2)), .int ((g.2.2.2.2.2.2 (i + 1))), .ref 215] _
  refine q_invV (mc' := 0) (ms' := 0) (d' := d - 1) (as := [.int ((g.2.2.2.2.2.2 (i + 1))), .int ((g.2.2.2.2.2.2 (i + 2)))]) dL_law_1450 kM_X11_attackerAt kL_L_240 kI_X11_attackerAt kS_X11_attackerAt rfl (kC_X11.1) m1.c0 rfl rfl (Nat.le_of_ble_eq_true rfl) (by omega) (by decide) (by omega) (by omega) (r_attackerAt (g := g) (d := d - 1) m1 e0 hn e3 hm (g.2.2.2.2.2.2 (i + 1)) (g.2.2.2.2.2.2 (i + 2)) (by omega)) (q_kC (fun h3 hB3 => ?_)) q_xC
  obtain ⟨m3, q3⟩ := hB3
  obtain ⟨rs3, ac3, rj3, ro3, bf3, he3, er3, cm3, cn3, m3⟩ := m3
  change q_W _ _ _ _ _ _ _ _ 1453 [.ref 0, .ref 100, .ref 215, .ref 223, .ref 224, .int (nI i), .int ((x_mo_attackerAt al s.1 (g.2.2.2.2.2.2 (i + 1)) (g.2.2.2.2.2.2 (i + 2))).2), q_u, q_u] [.int ((x_mo_attackerAt al s.1 (g.2.2.2.2.2.2 (i + 1)) (g.2.2.2.2.2.2 (i + 2))).1)] h3
  refine q_istore dL_law_1453 (by decide) rfl ?_
  change q_W _ _ _ _ _ _ _ _ 1455 [.ref 0, .ref 100, .ref 215, .ref 223, .ref 224, .int (nI i), .int ((x_mo_attackerAt al s.1 (g.2.2.2.2.2.2 (i + 1)) (g.2.2.2.2.2.2 (i + 2))).2), .int ((x_mo_attackerAt al s.1 (g.2.2.2.2.2.2 (i + 1)) (g.2.2.2.2.2.2 (i + 2))).1), q_u] [] h3
  refine q_aload_n (by first | assumption | (rw [q_R0e]; omega)) dL_law_1455 rfl ?_
  refine q_invV (mc' := 0) (ms' := 0) (d' := d - 1) (as := []) dL_law_1456 kM_X11_thrown kL_L_166 kI_X11_thrown kS_X11_thrown rfl (kC_X11.1) m3.c0 rfl rfl (Nat.le_of_ble_eq_true rfl) (by omega) (by decide) (by omega) (by omega) (e_mo_thrownR (d := d - 1) m3 (by omega)) (q_kR ?_) q_xR
  change q_W _ _ _ _ _ _ _ _ 1459 [.ref 0, .ref 100, .ref 215, .ref 223, .ref 224, .int (nI i), .int ((x_mo_attackerAt al s.1 (g.2.2.2.2.2.2 (i + 1)) (g.2.2.2.2.2.2 (i + 2))).2), .int ((x_mo_attackerAt al s.1 (g.2.2.2.2.2.2 (i + 1)) (g.2.2.2.2.2.2 (i + 2))).1), q_u] [.int ((x_mo_attackerAt al s.1 (g.2.2.2.2.2.2 (i + 1)) (g.2.2.2.2.2.2 (i + 2))).2)] h3
  refine q_iload dL_law_1459 rfl ?_
  refine q_icmp_eq 1466 dL_law_1461 (by decide) (fun _ => ?_) (fun b => absurd rfl b)
  refine q_iload dL_law_1466 rfl ?_
  have hz3 : h1.1 ≤ h3.1 := q3.1
  have hz4 : h0.1 ≤ h1.1 := qs.1
  have fin : q_W g mL_law d mc ms Q (kc + 2) (ks + 12) 1483 [.ref 0, .ref 100, .ref 215, .ref 223, .ref 224, .int (nI i), .int ((x_mo_attackerAt al s.1 (g.2.2.2.2.2.2 (i + 1)) (g.2.2.2.2.2.2 (i + 2))).2), .int ((x_mo_attackerAt al s.1 (g.2.2.2.2.2.2 (i + 1)) (g.2.2.2.2.2.2 (i + 2))).1), q_u] [] h3 := by
    refine q_goto 2985 dL_law_1483 (by decide) ?_
    refine q_forget 6 ?_
    refine q_forget 7 ?_
    change q_W _ _ _ _ _ _ _ _ 2985 [.ref 0, .ref 100, .ref 215, .ref 223, .ref 224, .int (nI i), q_u, q_u, q_u] [] h3
    exact q_widen (by omega) (by omega) (K h3 ⟨_, _, _, _, _, _, _, _, _, _, _, _, _, _, _, _, _, _, _, _, _, _, w1.keep (q3.wide (by omega) (by omega)), ⟨_, ⟨_, _, _, _, _, _, _, _, _, m3⟩⟩, ⟨_, (q3.2 _ (by omega) (by omega)).trans c223b⟩, ⟨_, (q3.2 _ (by omega) (by omega)).trans c224b⟩, J2⟩)
  refine q_if_ne 1483 dL_law_1468 (by decide) (fun _ => fin) (fun b => ?_)
  have eo9 : (q_oI ((x_am_attackerAt s.1 s.2.1 s.2.2.2.2.2.1 (g.2.2.2.2.2.2 (i + 1)) (g.2.2.2.2.2.2 (i + 2))))) = .inl (some (.int ((x_mo_attackerAt al s.1 (g.2.2.2.2.2.2 (i + 1)) (g.2.2.2.2.2.2 (i + 2))).1))) := by
    rcases ag with ⟨et, eo⟩ | ⟨et, eo⟩ | ⟨et, eo⟩
    · exact absurd (et.symm.trans b) (by decide)
    · exact absurd (et.symm.trans b) (by decide)
    · exact eo
  have ev := hf2 _ eo9
  refine q_aload_n (by first | assumption | (rw [q_R0e]; omega)) dL_law_1471 rfl ?_
  refine q_iconst (v := 0) dL_law_1472 rfl ?_
  refine q_lald (f := f2) dL_law_1473 ((q3.2 _ (by omega) (by omega)).trans c223b) (vp_in_nI (n := 0) (N := 1) (by decide) (by decide)) ?_
  change q_W _ _ _ _ _ _ _ _ _ _ [.long (f2 0)] _
  rw [ev]
  refine q_iload dL_law_1474 rfl ?_
  refine q_i2l dL_law_1476 rfl ?_
  refine q_lcmp dL_law_1477 ?_
  rw [z_lcmp]
  exact q_if_eq 1483 dL_law_1478 (by decide) (fun _ => fin) (fun b => absurd rfl b)
set_option maxRecDepth 100000 in
set_option maxHeartbeats 4000000 in
theorem l_c_status {g : q_G} {h : q_H} {d mc ms kc ks i t : Nat} {Q : q_O → q_H → Prop} (hP : z_P_status) (hI : z_I t h) (ht : t < 512) (hi : i + 2 < g.2.2.2.2.2.1) (hN : g.2.2.2.2.2.1 < 2 ^ 31) (ho : q_isold g 0) (hd : 26 ≤ d) (hkc : kc + 66 ≤ mc) (hks : ks + 10588 ≤ ms) (K : ∀ h2, z_I (t + 1) h2 → q_W g mL_law d mc ms Q (kc + 66) (ks + 10588) 2985 [.ref 0, .ref 100, .ref 215, .ref 223, .ref 224, .int (nI i), q_u, q_u, q_u] [] h2) : q_W g mL_law d mc ms Q kc ks 1486 [.ref 0, .ref 100, .ref 215, .ref 223, .ref 224, .int (nI i), q_u, q_u, q_u] [] h := by
  obtain ⟨hs, se, sf, s, s1, nx, kp, rw, ic, fi, lc, fl, al, cg, sv, ad, ln, lz, ip, ty, ea, fa, wc, ⟨th, wm⟩, ⟨f, c223⟩, ⟨fd, c224⟩, J⟩ := hI
  obtain ⟨s2, ca, cj, co, won, lost, pf, cv, sc, pc, pp, po, vb, oa, ob, w⟩ := wc
  obtain ⟨rs, ac, rj, ro, bf, he, er, cm, cn, m⟩ := wm
  obtain ⟨e0, hn, e3, hm⟩ := J.n0
  obtain ⟨ag, J2⟩ := hP t hs se sf s s1 nx kp rw ic fi lc fl al cg sv ad ln lz ip ty ea fa ca cj co ro (g.2.2.2.2.2.2 (i + 1)) ht J
  refine q_aload_n (by first | assumption | (rw [q_R0e]; omega)) dL_law_1486 rfl ?_
  refine q_aload_nO ho dL_law_1487 rfl ?_
  refine q_iload dL_law_1488 rfl ?_
  refine q_iconst (v := 1) dL_law_1490 rfl ?_
  refine q_iaddN (a := i) (b := 1) dL_law_1491 ?_
  refine q_taldIN (by decide) dL_law_1492 (rfl : q_ar g 0 = _) (by omega) hN ?_
  change q_W _ _ _ _ _ _ _ _ _ _ [.int (g.2.2.2.2.2.2 (i + 1)), .ref 100] _
  refine q_aload_n (by first | assumption | (rw [q_R0e]; omega)) dL_law_1493 rfl ?_
  have ho9 : (∃ v, (q_oI ((x_am_status s.1 s.2.1 s.2.2.2.2.2.1 ca cj co (g.2.2.2.2.2.2 (i + 1))).1)) = .inl (some (.int v))) ∨ (q_oI ((x_am_status s.1 s.2.1 s.2.2.2.2.2.1 ca cj co (g.2.2.2.2.2.2 (i + 1))).1)) = .inr "java/util/NoSuchElementException" := by
    rcases ag with ⟨et, eo⟩ | ⟨et, eo⟩
    · exact Or.inr (eo)
    · exact Or.inl ⟨_, eo⟩
  have hcd : z_cd [("java/util/NoSuchElementException", 1)] (q_oI ((x_am_status s.1 s.2.1 s.2.2.2.2.2.1 ca cj co (g.2.2.2.2.2.2 (i + 1))).1)) = (x_mo_status al ro s.1 (g.2.2.2.2.2.2 (i + 1))).2.1 := by
    rcases ag with ⟨et, eo⟩ | ⟨et, eo⟩
    · rw [et, eo]; rfl
    · rw [et, eo]; rfl
  have hB9 : ∀ h1, (z_C h1 hs se sf s s1 nx kp rw ic fi lc fl ∧ q_zone h h1 100 115) → h1.2 223 = some (.inl (4, 1, .inr (.inl f))) := fun h1 hb => (hb.2.2 _ (by omega) (by omega)).trans c223
  refine q_invSH (mc' := 1) (ms' := 6) (d' := d - 1) (as := [.ref 100, .int ((g.2.2.2.2.2.2 (i + 1))), .ref 223]) dL_law_1494 kM_L_status kL_L_241 kT_L_status rfl rfl rfl (Nat.le_of_ble_eq_true rfl) (by omega) (by decide) (by omega) (by omega) (e_L_status (d := d - 1) (dd := d - 2) w.1.c0 hB9 ho9 (c_status (g := g) (h := h) (d := d - 2) w (g.2.2.2.2.2.2 (i + 1)) (by omega)) (by omega)) (q_kC (fun h1 hB => ?_)) q_xC
  obtain ⟨h0, ⟨wc1, q1⟩, e9⟩ := hB
  obtain ⟨f2, c223b, hf2⟩ := z_outL_c (o := q_oI ((x_am_status s.1 s.2.1 s.2.2.2.2.2.1 ca cj co (g.2.2.2.2.2.2 (i + 1))).1)) (hB9 h0 ⟨wc1, q1⟩)
  have qs : q_same h0 h1 223 1 := e9 ▸ z_outL_same
  rw [← e9] at c223b
  clear e9
  have hz : 225 ≤ h.1 := w.2.2.2.2.2.2.2.2.2.s0
  have hz0 : h.1 ≤ h0.1 := q1.1
  have c224b : h1.2 224 = _ := (qs.2 _ (by omega) (by omega)).trans ((q1.2 _ (by omega) (by omega)).trans c224)
  have w1 := wc1.keep (qs.wide (by omega) (by omega))
  have m1 := m.keepI (h1 := h1) (Nat.le_trans q1.1 qs.1) (fun j b1 b2 => (qs.2 j (by omega) (by omega)).trans (q1.2 j (by omega) (by omega)))
  clear wc1 hB9 ho9 m
  change q_W _ _ _ _ _ _ _ _ 1497 [.ref 0, .ref 100, .ref 215, .ref 223, .ref 224, .int (nI i), q_u, q_u, q_u] [.int (z_cd [("java/util/NoSuchElementException", 1)] (q_oI ((x_am_status s.1 s.2.1 s.2.2.2.2.2.1 ca cj co (g.2.2.2.2.2.2 (i + 1))).1)))] h1
  rw [hcd]
  refine q_istore dL_law_1497 (by decide) rfl ?_
  change q_W _ _ _ _ _ _ _ _ 1499 [.ref 0, .ref 100, .ref 215, .ref 223, .ref 224, .int (nI i), .int ((x_mo_status al ro s.1 (g.2.2.2.2.2.2 (i + 1))).2.1), q_u, q_u] [] h1
  refine q_aload_n (by first | assumption | (rw [q_R0e]; omega)) dL_law_1499 rfl ?_
  refine q_aload_nO ho dL_law_1500 rfl ?_
  refine q_iload dL_law_1501 rfl ?_
  refine q_iconst (v := 1) dL_law_1503 rfl ?_
  refine q_iaddN (a := i) (b := 1) dL_law_1504 ?_
  refine q_taldIN (by decide) dL_law_1505 (rfl : q_ar g 0 = _) (by omega) hN ?_
  change q_W _ _ _ _ _ _ _ _ _ _ [.int (g.2.2.2.2.2.2 (i + 1)), .ref 215] _
  refine q_invV (mc' := 0) (ms' := 0) (d' := d - 1) (as := [.int ((g.2.2.2.2.2.2 (i + 1)))]) dL_law_1506 kM_X11_status kL_L_243 kI_X11_status kS_X11_status rfl (kC_X11.1) m1.c0 rfl rfl (Nat.le_of_ble_eq_true rfl) (by omega) (by decide) (by omega) (by omega) (r_status (g := g) (d := d - 1) m1 e0 hn e3 hm (g.2.2.2.2.2.2 (i + 1)) (by omega)) (q_kC (fun h3 hB3 => ?_)) q_xC
  obtain ⟨m3, q3⟩ := hB3
  obtain ⟨rs3, ac3, rj3, ro3, bf3, he3, er3, cm3, cn3, m3⟩ := m3
  change q_W _ _ _ _ _ _ _ _ 1509 [.ref 0, .ref 100, .ref 215, .ref 223, .ref 224, .int (nI i), .int ((x_mo_status al ro s.1 (g.2.2.2.2.2.2 (i + 1))).2.1), q_u, q_u] [.int ((x_mo_status al ro s.1 (g.2.2.2.2.2.2 (i + 1))).1)] h3
  refine q_istore dL_law_1509 (by decide) rfl ?_
  change q_W _ _ _ _ _ _ _ _ 1511 [.ref 0, .ref 100, .ref 215, .ref 223, .ref 224, .int (nI i), .int ((x_mo_status al ro s.1 (g.2.2.2.2.2.2 (i + 1))).2.1), .int ((x_mo_status al ro s.1 (g.2.2.2.2.2.2 (i + 1))).1), q_u] [] h3
  refine q_aload_n (by first | assumption | (rw [q_R0e]; omega)) dL_law_1511 rfl ?_
  refine q_invV (mc' := 0) (ms' := 0) (d' := d - 1) (as := []) dL_law_1512 kM_X11_thrown kL_L_166 kI_X11_thrown kS_X11_thrown rfl (kC_X11.1) m3.c0 rfl rfl (Nat.le_of_ble_eq_true rfl) (by omega) (by decide) (by omega) (by omega) (e_mo_thrownR (d := d - 1) m3 (by omega)) (q_kR ?_) q_xR
  change q_W _ _ _ _ _ _ _ _ 1515 [.ref 0, .ref 100, .ref 215, .ref 223, .ref 224, .int (nI i), .int ((x_mo_status al ro s.1 (g.2.2.2.2.2.2 (i + 1))).2.1), .int ((x_mo_status al ro s.1 (g.2.2.2.2.2.2 (i + 1))).1), q_u] [.int ((x_mo_status al ro s.1 (g.2.2.2.2.2.2 (i + 1))).2.1)] h3
  refine q_iload dL_law_1515 rfl ?_
  refine q_icmp_eq 1522 dL_law_1517 (by decide) (fun _ => ?_) (fun b => absurd rfl b)
  refine q_iload dL_law_1522 rfl ?_
  have hz3 : h1.1 ≤ h3.1 := q3.1
  have hz4 : h0.1 ≤ h1.1 := qs.1
  have fin : q_W g mL_law d mc ms Q (kc + 1) (ks + 6) 1539 [.ref 0, .ref 100, .ref 215, .ref 223, .ref 224, .int (nI i), .int ((x_mo_status al ro s.1 (g.2.2.2.2.2.2 (i + 1))).2.1), .int ((x_mo_status al ro s.1 (g.2.2.2.2.2.2 (i + 1))).1), q_u] [] h3 := by
    refine q_goto 2985 dL_law_1539 (by decide) ?_
    refine q_forget 6 ?_
    refine q_forget 7 ?_
    change q_W _ _ _ _ _ _ _ _ 2985 [.ref 0, .ref 100, .ref 215, .ref 223, .ref 224, .int (nI i), q_u, q_u, q_u] [] h3
    exact q_widen (by omega) (by omega) (K h3 ⟨_, _, _, _, _, _, _, _, _, _, _, _, _, _, _, _, _, _, _, _, _, _, w1.keep (q3.wide (by omega) (by omega)), ⟨_, ⟨_, _, _, _, _, _, _, _, _, m3⟩⟩, ⟨_, (q3.2 _ (by omega) (by omega)).trans c223b⟩, ⟨_, (q3.2 _ (by omega) (by omega)).trans c224b⟩, J2⟩)
  refine q_if_ne 1539 dL_law_1524 (by decide) (fun _ => fin) (fun b => ?_)
  have eo9 : (q_oI ((x_am_status s.1 s.2.1 s.2.2.2.2.2.1 ca cj co (g.2.2.2.2.2.2 (i + 1))).1)) = .inl (some (.int ((x_mo_status al ro s.1 (g.2.2.2.2.2.2 (i + 1))).1))) := by
    rcases ag with ⟨et, eo⟩ | ⟨et, eo⟩
    · exact absurd (et.symm.trans b) (by decide)
    · exact eo
  have ev := hf2 _ eo9
  refine q_aload_n (by first | assumption | (rw [q_R0e]; omega)) dL_law_1527 rfl ?_
  refine q_iconst (v := 0) dL_law_1528 rfl ?_
  refine q_lald (f := f2) dL_law_1529 ((q3.2 _ (by omega) (by omega)).trans c223b) (vp_in_nI (n := 0) (N := 1) (by decide) (by decide)) ?_
  change q_W _ _ _ _ _ _ _ _ _ _ [.long (f2 0)] _
  rw [ev]
  refine q_iload dL_law_1530 rfl ?_
  refine q_i2l dL_law_1532 rfl ?_
  refine q_lcmp dL_law_1533 ?_
  rw [z_lcmp]
  exact q_if_eq 1539 dL_law_1534 (by decide) (fun _ => fin) (fun b => absurd rfl b)
set_option maxRecDepth 100000 in
set_option maxHeartbeats 4000000 in
theorem l_c_roundOf {g : q_G} {h : q_H} {d mc ms kc ks i t : Nat} {Q : q_O → q_H → Prop} (hP : z_P_roundOf) (hI : z_I t h) (ht : t < 512) (hi : i + 2 < g.2.2.2.2.2.1) (hN : g.2.2.2.2.2.1 < 2 ^ 31) (ho : q_isold g 0) (hd : 26 ≤ d) (hkc : kc + 66 ≤ mc) (hks : ks + 10588 ≤ ms) (K : ∀ h2, z_I (t + 1) h2 → q_W g mL_law d mc ms Q (kc + 66) (ks + 10588) 2985 [.ref 0, .ref 100, .ref 215, .ref 223, .ref 224, .int (nI i), q_u, q_u, q_u] [] h2) : q_W g mL_law d mc ms Q kc ks 1542 [.ref 0, .ref 100, .ref 215, .ref 223, .ref 224, .int (nI i), q_u, q_u, q_u] [] h := by
  obtain ⟨hs, se, sf, s, s1, nx, kp, rw, ic, fi, lc, fl, al, cg, sv, ad, ln, lz, ip, ty, ea, fa, wc, ⟨th, wm⟩, ⟨f, c223⟩, ⟨fd, c224⟩, J⟩ := hI
  obtain ⟨s2, ca, cj, co, won, lost, pf, cv, sc, pc, pp, po, vb, oa, ob, w⟩ := wc
  obtain ⟨rs, ac, rj, ro, bf, he, er, cm, cn, m⟩ := wm
  obtain ⟨e0, hn, e3, hm⟩ := J.n0
  obtain ⟨ag, J2⟩ := hP t hs se sf s s1 nx kp rw ic fi lc fl al cg sv ad ln lz ip ty ea fa ca cj co ro (g.2.2.2.2.2.2 (i + 1)) ht J
  refine q_aload_n (by first | assumption | (rw [q_R0e]; omega)) dL_law_1542 rfl ?_
  refine q_aload_nO ho dL_law_1543 rfl ?_
  refine q_iload dL_law_1544 rfl ?_
  refine q_iconst (v := 1) dL_law_1546 rfl ?_
  refine q_iaddN (a := i) (b := 1) dL_law_1547 ?_
  refine q_taldIN (by decide) dL_law_1548 (rfl : q_ar g 0 = _) (by omega) hN ?_
  change q_W _ _ _ _ _ _ _ _ _ _ [.int (g.2.2.2.2.2.2 (i + 1)), .ref 100] _
  refine q_aload_n (by first | assumption | (rw [q_R0e]; omega)) dL_law_1549 rfl ?_
  have ho9 : (∃ v, (q_oI ((x_am_roundOf s.1 s.2.1 s.2.2.2.2.2.1 ca cj co (g.2.2.2.2.2.2 (i + 1))).1)) = .inl (some (.int v))) ∨ (q_oI ((x_am_roundOf s.1 s.2.1 s.2.2.2.2.2.1 ca cj co (g.2.2.2.2.2.2 (i + 1))).1)) = .inr "java/util/NoSuchElementException" := by
    rcases ag with ⟨et, eo⟩ | ⟨et, eo⟩
    · exact Or.inr (eo)
    · exact Or.inl ⟨_, eo⟩
  have hcd : z_cd [("java/util/NoSuchElementException", 1)] (q_oI ((x_am_roundOf s.1 s.2.1 s.2.2.2.2.2.1 ca cj co (g.2.2.2.2.2.2 (i + 1))).1)) = (x_mo_roundOf al ro s.1 (g.2.2.2.2.2.2 (i + 1))).2.1 := by
    rcases ag with ⟨et, eo⟩ | ⟨et, eo⟩
    · rw [et, eo]; rfl
    · rw [et, eo]; rfl
  have hB9 : ∀ h1, (z_C h1 hs se sf s s1 nx kp rw ic fi lc fl ∧ q_zone h h1 100 115) → h1.2 223 = some (.inl (4, 1, .inr (.inl f))) := fun h1 hb => (hb.2.2 _ (by omega) (by omega)).trans c223
  refine q_invSH (mc' := 2) (ms' := 12) (d' := d - 1) (as := [.ref 100, .int ((g.2.2.2.2.2.2 (i + 1))), .ref 223]) dL_law_1550 kM_L_roundOf kL_L_244 kT_L_roundOf rfl rfl rfl (Nat.le_of_ble_eq_true rfl) (by omega) (by decide) (by omega) (by omega) (e_L_roundOf (d := d - 1) (dd := d - 2) w.1.c0 hB9 ho9 (c_roundOf (g := g) (h := h) (d := d - 2) w (g.2.2.2.2.2.2 (i + 1)) (by omega)) (by omega)) (q_kC (fun h1 hB => ?_)) q_xC
  obtain ⟨h0, ⟨wc1, q1⟩, e9⟩ := hB
  obtain ⟨f2, c223b, hf2⟩ := z_outL_c (o := q_oI ((x_am_roundOf s.1 s.2.1 s.2.2.2.2.2.1 ca cj co (g.2.2.2.2.2.2 (i + 1))).1)) (hB9 h0 ⟨wc1, q1⟩)
  have qs : q_same h0 h1 223 1 := e9 ▸ z_outL_same
  rw [← e9] at c223b
  clear e9
  have hz : 225 ≤ h.1 := w.2.2.2.2.2.2.2.2.2.s0
  have hz0 : h.1 ≤ h0.1 := q1.1
  have c224b : h1.2 224 = _ := (qs.2 _ (by omega) (by omega)).trans ((q1.2 _ (by omega) (by omega)).trans c224)
  have w1 := wc1.keep (qs.wide (by omega) (by omega))
  have m1 := m.keepI (h1 := h1) (Nat.le_trans q1.1 qs.1) (fun j b1 b2 => (qs.2 j (by omega) (by omega)).trans (q1.2 j (by omega) (by omega)))
  clear wc1 hB9 ho9 m
  change q_W _ _ _ _ _ _ _ _ 1553 [.ref 0, .ref 100, .ref 215, .ref 223, .ref 224, .int (nI i), q_u, q_u, q_u] [.int (z_cd [("java/util/NoSuchElementException", 1)] (q_oI ((x_am_roundOf s.1 s.2.1 s.2.2.2.2.2.1 ca cj co (g.2.2.2.2.2.2 (i + 1))).1)))] h1
  rw [hcd]
  refine q_istore dL_law_1553 (by decide) rfl ?_
  change q_W _ _ _ _ _ _ _ _ 1555 [.ref 0, .ref 100, .ref 215, .ref 223, .ref 224, .int (nI i), .int ((x_mo_roundOf al ro s.1 (g.2.2.2.2.2.2 (i + 1))).2.1), q_u, q_u] [] h1
  refine q_aload_n (by first | assumption | (rw [q_R0e]; omega)) dL_law_1555 rfl ?_
  refine q_aload_nO ho dL_law_1556 rfl ?_
  refine q_iload dL_law_1557 rfl ?_
  refine q_iconst (v := 1) dL_law_1559 rfl ?_
  refine q_iaddN (a := i) (b := 1) dL_law_1560 ?_
  refine q_taldIN (by decide) dL_law_1561 (rfl : q_ar g 0 = _) (by omega) hN ?_
  change q_W _ _ _ _ _ _ _ _ _ _ [.int (g.2.2.2.2.2.2 (i + 1)), .ref 215] _
  refine q_invV (mc' := 0) (ms' := 0) (d' := d - 1) (as := [.int ((g.2.2.2.2.2.2 (i + 1)))]) dL_law_1562 kM_X11_roundOf kL_L_246 kI_X11_roundOf kS_X11_roundOf rfl (kC_X11.1) m1.c0 rfl rfl (Nat.le_of_ble_eq_true rfl) (by omega) (by decide) (by omega) (by omega) (r_roundOf (g := g) (d := d - 1) m1 e0 hn e3 hm (g.2.2.2.2.2.2 (i + 1)) (by omega)) (q_kC (fun h3 hB3 => ?_)) q_xC
  obtain ⟨m3, q3⟩ := hB3
  obtain ⟨rs3, ac3, rj3, ro3, bf3, he3, er3, cm3, cn3, m3⟩ := m3
  change q_W _ _ _ _ _ _ _ _ 1565 [.ref 0, .ref 100, .ref 215, .ref 223, .ref 224, .int (nI i), .int ((x_mo_roundOf al ro s.1 (g.2.2.2.2.2.2 (i + 1))).2.1), q_u, q_u] [.int ((x_mo_roundOf al ro s.1 (g.2.2.2.2.2.2 (i + 1))).1)] h3
  refine q_istore dL_law_1565 (by decide) rfl ?_
  change q_W _ _ _ _ _ _ _ _ 1567 [.ref 0, .ref 100, .ref 215, .ref 223, .ref 224, .int (nI i), .int ((x_mo_roundOf al ro s.1 (g.2.2.2.2.2.2 (i + 1))).2.1), .int ((x_mo_roundOf al ro s.1 (g.2.2.2.2.2.2 (i + 1))).1), q_u] [] h3
  refine q_aload_n (by first | assumption | (rw [q_R0e]; omega)) dL_law_1567 rfl ?_
  refine q_invV (mc' := 0) (ms' := 0) (d' := d - 1) (as := []) dL_law_1568 kM_X11_thrown kL_L_166 kI_X11_thrown kS_X11_thrown rfl (kC_X11.1) m3.c0 rfl rfl (Nat.le_of_ble_eq_true rfl) (by omega) (by decide) (by omega) (by omega) (e_mo_thrownR (d := d - 1) m3 (by omega)) (q_kR ?_) q_xR
  change q_W _ _ _ _ _ _ _ _ 1571 [.ref 0, .ref 100, .ref 215, .ref 223, .ref 224, .int (nI i), .int ((x_mo_roundOf al ro s.1 (g.2.2.2.2.2.2 (i + 1))).2.1), .int ((x_mo_roundOf al ro s.1 (g.2.2.2.2.2.2 (i + 1))).1), q_u] [.int ((x_mo_roundOf al ro s.1 (g.2.2.2.2.2.2 (i + 1))).2.1)] h3
  refine q_iload dL_law_1571 rfl ?_
  refine q_icmp_eq 1578 dL_law_1573 (by decide) (fun _ => ?_) (fun b => absurd rfl b)
  refine q_iload dL_law_1578 rfl ?_
  have hz3 : h1.1 ≤ h3.1 := q3.1
  have hz4 : h0.1 ≤ h1.1 := qs.1
  have fin : q_W g mL_law d mc ms Q (kc + 2) (ks + 12) 1595 [.ref 0, .ref 100, .ref 215, .ref 223, .ref 224, .int (nI i), .int ((x_mo_roundOf al ro s.1 (g.2.2.2.2.2.2 (i + 1))).2.1), .int ((x_mo_roundOf al ro s.1 (g.2.2.2.2.2.2 (i + 1))).1), q_u] [] h3 := by
    refine q_goto 2985 dL_law_1595 (by decide) ?_
    refine q_forget 6 ?_
    refine q_forget 7 ?_
    change q_W _ _ _ _ _ _ _ _ 2985 [.ref 0, .ref 100, .ref 215, .ref 223, .ref 224, .int (nI i), q_u, q_u, q_u] [] h3
    exact q_widen (by omega) (by omega) (K h3 ⟨_, _, _, _, _, _, _, _, _, _, _, _, _, _, _, _, _, _, _, _, _, _, w1.keep (q3.wide (by omega) (by omega)), ⟨_, ⟨_, _, _, _, _, _, _, _, _, m3⟩⟩, ⟨_, (q3.2 _ (by omega) (by omega)).trans c223b⟩, ⟨_, (q3.2 _ (by omega) (by omega)).trans c224b⟩, J2⟩)
  refine q_if_ne 1595 dL_law_1580 (by decide) (fun _ => fin) (fun b => ?_)
  have eo9 : (q_oI ((x_am_roundOf s.1 s.2.1 s.2.2.2.2.2.1 ca cj co (g.2.2.2.2.2.2 (i + 1))).1)) = .inl (some (.int ((x_mo_roundOf al ro s.1 (g.2.2.2.2.2.2 (i + 1))).1))) := by
    rcases ag with ⟨et, eo⟩ | ⟨et, eo⟩
    · exact absurd (et.symm.trans b) (by decide)
    · exact eo
  have ev := hf2 _ eo9
  refine q_aload_n (by first | assumption | (rw [q_R0e]; omega)) dL_law_1583 rfl ?_
  refine q_iconst (v := 0) dL_law_1584 rfl ?_
  refine q_lald (f := f2) dL_law_1585 ((q3.2 _ (by omega) (by omega)).trans c223b) (vp_in_nI (n := 0) (N := 1) (by decide) (by decide)) ?_
  change q_W _ _ _ _ _ _ _ _ _ _ [.long (f2 0)] _
  rw [ev]
  refine q_iload dL_law_1586 rfl ?_
  refine q_i2l dL_law_1588 rfl ?_
  refine q_lcmp dL_law_1589 ?_
  rw [z_lcmp]
  exact q_if_eq 1595 dL_law_1590 (by decide) (fun _ => fin) (fun b => absurd rfl b)
set_option maxRecDepth 100000 in
set_option maxHeartbeats 4000000 in
theorem l_c_isAcceptedByGame {g : q_G} {h : q_H} {d mc ms kc ks i t : Nat} {Q : q_O → q_H → Prop} (hP : z_P_isAcceptedByGame) (hI : z_I t h) (ht : t < 512) (hi : i + 2 < g.2.2.2.2.2.1) (hN : g.2.2.2.2.2.1 < 2 ^ 31) (ho : q_isold g 0) (hd : 26 ≤ d) (hkc : kc + 66 ≤ mc) (hks : ks + 10588 ≤ ms) (K : ∀ h2, z_I (t + 1) h2 → q_W g mL_law d mc ms Q (kc + 66) (ks + 10588) 2985 [.ref 0, .ref 100, .ref 215, .ref 223, .ref 224, .int (nI i), q_u, q_u, q_u] [] h2) : q_W g mL_law d mc ms Q kc ks 1598 [.ref 0, .ref 100, .ref 215, .ref 223, .ref 224, .int (nI i), q_u, q_u, q_u] [] h := by
  obtain ⟨hs, se, sf, s, s1, nx, kp, rw, ic, fi, lc, fl, al, cg, sv, ad, ln, lz, ip, ty, ea, fa, wc, ⟨th, wm⟩, ⟨f, c223⟩, ⟨fd, c224⟩, J⟩ := hI
  obtain ⟨s2, ca, cj, co, won, lost, pf, cv, sc, pc, pp, po, vb, oa, ob, w⟩ := wc
  obtain ⟨rs, ac, rj, ro, bf, he, er, cm, cn, m⟩ := wm
  obtain ⟨e0, hn, e3, hm⟩ := J.n0
  obtain ⟨ag, J2⟩ := hP t hs se sf s s1 nx kp rw ic fi lc fl al cg sv ad ln lz ip ty ea fa won lost ro (g.2.2.2.2.2.2 (i + 1)) ht J
  refine q_aload_n (by first | assumption | (rw [q_R0e]; omega)) dL_law_1598 rfl ?_
  refine q_aload_nO ho dL_law_1599 rfl ?_
  refine q_iload dL_law_1600 rfl ?_
  refine q_iconst (v := 1) dL_law_1602 rfl ?_
  refine q_iaddN (a := i) (b := 1) dL_law_1603 ?_
  refine q_taldIN (by decide) dL_law_1604 (rfl : q_ar g 0 = _) (by omega) hN ?_
  change q_W _ _ _ _ _ _ _ _ _ _ [.int (g.2.2.2.2.2.2 (i + 1)), .ref 100] _
  refine q_aload_n (by first | assumption | (rw [q_R0e]; omega)) dL_law_1605 rfl ?_
  have ho9 : (∃ v, (q_oB ((x_am_isAcceptedByGame s.1 s.2.1 s.2.2.2.2.2.1 won lost (g.2.2.2.2.2.2 (i + 1))).1)) = .inl (some (.int (z_b v)))) ∨ (q_oB ((x_am_isAcceptedByGame s.1 s.2.1 s.2.2.2.2.2.1 won lost (g.2.2.2.2.2.2 (i + 1))).1)) = .inr "java/util/NoSuchElementException" := by
    rcases ag with ⟨et, eo⟩ | ⟨et, eo⟩
    · exact Or.inr (eo)
    · exact Or.inl ⟨_, eo⟩
  have hcd : z_cd [("java/util/NoSuchElementException", 1)] (q_oB ((x_am_isAcceptedByGame s.1 s.2.1 s.2.2.2.2.2.1 won lost (g.2.2.2.2.2.2 (i + 1))).1)) = (x_mo_isAcceptedByGame al ro s.1 (g.2.2.2.2.2.2 (i + 1))).2.1 := by
    rcases ag with ⟨et, eo⟩ | ⟨et, eo⟩
    · rw [et, eo]; rfl
    · rw [et, eo]; rfl
  have hB9 : ∀ h1, (z_C h1 hs se sf s s1 nx kp rw ic fi lc fl ∧ q_zone h h1 100 115) → h1.2 223 = some (.inl (4, 1, .inr (.inl f))) := fun h1 hb => (hb.2.2 _ (by omega) (by omega)).trans c223
  refine q_invSH (mc' := 1) (ms' := 6) (d' := d - 1) (as := [.ref 100, .int ((g.2.2.2.2.2.2 (i + 1))), .ref 223]) dL_law_1606 kM_L_isAcceptedByGame kL_L_247 kT_L_isAcceptedByGame rfl rfl rfl (Nat.le_of_ble_eq_true rfl) (by omega) (by decide) (by omega) (by omega) (e_L_isAcceptedByGame (d := d - 1) (dd := d - 2) w.1.c0 hB9 ho9 (c_isAcceptedByGame (g := g) (h := h) (d := d - 2) w (g.2.2.2.2.2.2 (i + 1)) (by omega)) (by omega)) (q_kC (fun h1 hB => ?_)) q_xC
  obtain ⟨h0, ⟨wc1, q1⟩, e9⟩ := hB
  obtain ⟨f2, c223b, hf2⟩ := z_outL_c (o := q_oB ((x_am_isAcceptedByGame s.1 s.2.1 s.2.2.2.2.2.1 won lost (g.2.2.2.2.2.2 (i + 1))).1)) (hB9 h0 ⟨wc1, q1⟩)
  have qs : q_same h0 h1 223 1 := e9 ▸ z_outL_same
  rw [← e9] at c223b
  clear e9
  have hz : 225 ≤ h.1 := w.2.2.2.2.2.2.2.2.2.s0
  have hz0 : h.1 ≤ h0.1 := q1.1
  have c224b : h1.2 224 = _ := (qs.2 _ (by omega) (by omega)).trans ((q1.2 _ (by omega) (by omega)).trans c224)
  have w1 := wc1.keep (qs.wide (by omega) (by omega))
  have m1 := m.keepI (h1 := h1) (Nat.le_trans q1.1 qs.1) (fun j b1 b2 => (qs.2 j (by omega) (by omega)).trans (q1.2 j (by omega) (by omega)))
  clear wc1 hB9 ho9 m
  change q_W _ _ _ _ _ _ _ _ 1609 [.ref 0, .ref 100, .ref 215, .ref 223, .ref 224, .int (nI i), q_u, q_u, q_u] [.int (z_cd [("java/util/NoSuchElementException", 1)] (q_oB ((x_am_isAcceptedByGame s.1 s.2.1 s.2.2.2.2.2.1 won lost (g.2.2.2.2.2.2 (i + 1))).1)))] h1
  rw [hcd]
  refine q_istore dL_law_1609 (by decide) rfl ?_
  change q_W _ _ _ _ _ _ _ _ 1611 [.ref 0, .ref 100, .ref 215, .ref 223, .ref 224, .int (nI i), .int ((x_mo_isAcceptedByGame al ro s.1 (g.2.2.2.2.2.2 (i + 1))).2.1), q_u, q_u] [] h1
  refine q_aload_n (by first | assumption | (rw [q_R0e]; omega)) dL_law_1611 rfl ?_
  refine q_aload_nO ho dL_law_1612 rfl ?_
  refine q_iload dL_law_1613 rfl ?_
  refine q_iconst (v := 1) dL_law_1615 rfl ?_
  refine q_iaddN (a := i) (b := 1) dL_law_1616 ?_
  refine q_taldIN (by decide) dL_law_1617 (rfl : q_ar g 0 = _) (by omega) hN ?_
  change q_W _ _ _ _ _ _ _ _ _ _ [.int (g.2.2.2.2.2.2 (i + 1)), .ref 215] _
  refine q_invV (mc' := 0) (ms' := 0) (d' := d - 1) (as := [.int ((g.2.2.2.2.2.2 (i + 1)))]) dL_law_1618 kM_X11_isAcceptedByGame kL_L_249 kI_X11_isAcceptedByGame kS_X11_isAcceptedByGame rfl (kC_X11.1) m1.c0 rfl rfl (Nat.le_of_ble_eq_true rfl) (by omega) (by decide) (by omega) (by omega) (r_isAcceptedByGame (g := g) (d := d - 1) m1 e0 hn e3 hm (g.2.2.2.2.2.2 (i + 1)) (by omega)) (q_kC (fun h3 hB3 => ?_)) q_xC
  obtain ⟨m3, q3⟩ := hB3
  obtain ⟨rs3, ac3, rj3, ro3, bf3, he3, er3, cm3, cn3, m3⟩ := m3
  change q_W _ _ _ _ _ _ _ _ 1621 [.ref 0, .ref 100, .ref 215, .ref 223, .ref 224, .int (nI i), .int ((x_mo_isAcceptedByGame al ro s.1 (g.2.2.2.2.2.2 (i + 1))).2.1), q_u, q_u] [.int (z_b ((x_mo_isAcceptedByGame al ro s.1 (g.2.2.2.2.2.2 (i + 1))).1))] h3
  refine q_istore dL_law_1621 (by decide) rfl ?_
  change q_W _ _ _ _ _ _ _ _ 1623 [.ref 0, .ref 100, .ref 215, .ref 223, .ref 224, .int (nI i), .int ((x_mo_isAcceptedByGame al ro s.1 (g.2.2.2.2.2.2 (i + 1))).2.1), .int (z_b ((x_mo_isAcceptedByGame al ro s.1 (g.2.2.2.2.2.2 (i + 1))).1)), q_u] [] h3
  refine q_aload_n (by first | assumption | (rw [q_R0e]; omega)) dL_law_1623 rfl ?_
  refine q_invV (mc' := 0) (ms' := 0) (d' := d - 1) (as := []) dL_law_1624 kM_X11_thrown kL_L_166 kI_X11_thrown kS_X11_thrown rfl (kC_X11.1) m3.c0 rfl rfl (Nat.le_of_ble_eq_true rfl) (by omega) (by decide) (by omega) (by omega) (e_mo_thrownR (d := d - 1) m3 (by omega)) (q_kR ?_) q_xR
  change q_W _ _ _ _ _ _ _ _ 1627 [.ref 0, .ref 100, .ref 215, .ref 223, .ref 224, .int (nI i), .int ((x_mo_isAcceptedByGame al ro s.1 (g.2.2.2.2.2.2 (i + 1))).2.1), .int (z_b ((x_mo_isAcceptedByGame al ro s.1 (g.2.2.2.2.2.2 (i + 1))).1)), q_u] [.int ((x_mo_isAcceptedByGame al ro s.1 (g.2.2.2.2.2.2 (i + 1))).2.1)] h3
  refine q_iload dL_law_1627 rfl ?_
  refine q_icmp_eq 1634 dL_law_1629 (by decide) (fun _ => ?_) (fun b => absurd rfl b)
  refine q_iload dL_law_1634 rfl ?_
  have hz3 : h1.1 ≤ h3.1 := q3.1
  have hz4 : h0.1 ≤ h1.1 := qs.1
  have fin : q_W g mL_law d mc ms Q (kc + 1) (ks + 6) 1658 [.ref 0, .ref 100, .ref 215, .ref 223, .ref 224, .int (nI i), .int ((x_mo_isAcceptedByGame al ro s.1 (g.2.2.2.2.2.2 (i + 1))).2.1), .int (z_b ((x_mo_isAcceptedByGame al ro s.1 (g.2.2.2.2.2.2 (i + 1))).1)), q_u] [] h3 := by
    refine q_goto 2985 dL_law_1658 (by decide) ?_
    refine q_forget 6 ?_
    refine q_forget 7 ?_
    change q_W _ _ _ _ _ _ _ _ 2985 [.ref 0, .ref 100, .ref 215, .ref 223, .ref 224, .int (nI i), q_u, q_u, q_u] [] h3
    exact q_widen (by omega) (by omega) (K h3 ⟨_, _, _, _, _, _, _, _, _, _, _, _, _, _, _, _, _, _, _, _, _, _, w1.keep (q3.wide (by omega) (by omega)), ⟨_, ⟨_, _, _, _, _, _, _, _, _, m3⟩⟩, ⟨_, (q3.2 _ (by omega) (by omega)).trans c223b⟩, ⟨_, (q3.2 _ (by omega) (by omega)).trans c224b⟩, J2⟩)
  refine q_if_ne 1658 dL_law_1636 (by decide) (fun _ => fin) (fun b => ?_)
  have eo9 : (q_oB ((x_am_isAcceptedByGame s.1 s.2.1 s.2.2.2.2.2.1 won lost (g.2.2.2.2.2.2 (i + 1))).1)) = .inl (some (.int (z_b ((x_mo_isAcceptedByGame al ro s.1 (g.2.2.2.2.2.2 (i + 1))).1)))) := by
    rcases ag with ⟨et, eo⟩ | ⟨et, eo⟩
    · exact absurd (et.symm.trans b) (by decide)
    · exact eo
  have ev := hf2 _ eo9
  refine q_aload_n (by first | assumption | (rw [q_R0e]; omega)) dL_law_1639 rfl ?_
  refine q_iconst (v := 0) dL_law_1640 rfl ?_
  refine q_lald (f := f2) dL_law_1641 ((q3.2 _ (by omega) (by omega)).trans c223b) (vp_in_nI (n := 0) (N := 1) (by decide) (by decide)) ?_
  change q_W _ _ _ _ _ _ _ _ _ _ [.long (f2 0)] _
  rw [ev]
  refine q_iload dL_law_1642 rfl ?_
  have hlc : q_W g mL_law d mc ms Q (kc + 1) (ks + 6) 1652 [.ref 0, .ref 100, .ref 215, .ref 223, .ref 224, .int (nI i), .int ((x_mo_isAcceptedByGame al ro s.1 (g.2.2.2.2.2.2 (i + 1))).2.1), .int (z_b ((x_mo_isAcceptedByGame al ro s.1 (g.2.2.2.2.2.2 (i + 1))).1)), q_u] [.long (z_b ((x_mo_isAcceptedByGame al ro s.1 (g.2.2.2.2.2.2 (i + 1))).1)).toInt64, .long (z_b ((x_mo_isAcceptedByGame al ro s.1 (g.2.2.2.2.2.2 (i + 1))).1)).toInt64] h3 := by
    refine q_lcmp dL_law_1652 ?_
    rw [z_lcmp]
    exact q_if_eq 1658 dL_law_1653 (by decide) (fun _ => fin) (fun b => absurd rfl b)
  revert hlc
  cases (x_mo_isAcceptedByGame al ro s.1 (g.2.2.2.2.2.2 (i + 1))).1 with
  | false =>
    intro hlc
    refine q_if_eq 1651 dL_law_1644 (by decide) (fun _ => ?_) (fun b => absurd rfl b)
    exact q_lconst (v := 0) dL_law_1651 (by decide) hlc
  | true =>
    intro hlc
    refine q_if_eq 1651 dL_law_1644 (by decide) (fun b => absurd b (by decide)) (fun _ => ?_)
    refine q_lconst (v := 1) dL_law_1647 (by decide) ?_
    exact q_goto 1652 dL_law_1648 (by decide) hlc
set_option maxRecDepth 100000 in
set_option maxHeartbeats 4000000 in
theorem l_c_canOpponentWin {g : q_G} {h : q_H} {d mc ms kc ks i t : Nat} {Q : q_O → q_H → Prop} (hP : z_P_canOpponentWin) (hI : z_I t h) (ht : t < 512) (hi : i + 2 < g.2.2.2.2.2.1) (hN : g.2.2.2.2.2.1 < 2 ^ 31) (ho : q_isold g 0) (hd : 26 ≤ d) (hkc : kc + 66 ≤ mc) (hks : ks + 10588 ≤ ms) (K : ∀ h2, z_I (t + 1) h2 → q_W g mL_law d mc ms Q (kc + 66) (ks + 10588) 2985 [.ref 0, .ref 100, .ref 215, .ref 223, .ref 224, .int (nI i), q_u, q_u, q_u] [] h2) : q_W g mL_law d mc ms Q kc ks 1661 [.ref 0, .ref 100, .ref 215, .ref 223, .ref 224, .int (nI i), q_u, q_u, q_u] [] h := by
  obtain ⟨hs, se, sf, s, s1, nx, kp, rw, ic, fi, lc, fl, al, cg, sv, ad, ln, lz, ip, ty, ea, fa, wc, ⟨th, wm⟩, ⟨f, c223⟩, ⟨fd, c224⟩, J⟩ := hI
  obtain ⟨s2, ca, cj, co, won, lost, pf, cv, sc, pc, pp, po, vb, oa, ob, w⟩ := wc
  obtain ⟨rs, ac, rj, ro, bf, he, er, cm, cn, m⟩ := wm
  obtain ⟨e0, hn, e3, hm⟩ := J.n0
  obtain ⟨ag, J2⟩ := hP t hs se sf s s1 nx kp rw ic fi lc fl al cg sv ad ln lz ip ty ea fa won lost ro (g.2.2.2.2.2.2 (i + 1)) ht J
  refine q_aload_n (by first | assumption | (rw [q_R0e]; omega)) dL_law_1661 rfl ?_
  refine q_aload_nO ho dL_law_1662 rfl ?_
  refine q_iload dL_law_1663 rfl ?_
  refine q_iconst (v := 1) dL_law_1665 rfl ?_
  refine q_iaddN (a := i) (b := 1) dL_law_1666 ?_
  refine q_taldIN (by decide) dL_law_1667 (rfl : q_ar g 0 = _) (by omega) hN ?_
  change q_W _ _ _ _ _ _ _ _ _ _ [.int (g.2.2.2.2.2.2 (i + 1)), .ref 100] _
  refine q_aload_n (by first | assumption | (rw [q_R0e]; omega)) dL_law_1668 rfl ?_
  have ho9 : (∃ v, (q_oB ((x_am_canOpponentWin s.1 s.2.1 s.2.2.2.2.2.1 won lost (g.2.2.2.2.2.2 (i + 1))).1)) = .inl (some (.int (z_b v)))) ∨ (q_oB ((x_am_canOpponentWin s.1 s.2.1 s.2.2.2.2.2.1 won lost (g.2.2.2.2.2.2 (i + 1))).1)) = .inr "java/util/NoSuchElementException" := by
    rcases ag with ⟨et, eo⟩ | ⟨et, eo⟩
    · exact Or.inr (eo)
    · exact Or.inl ⟨_, eo⟩
  have hcd : z_cd [("java/util/NoSuchElementException", 1)] (q_oB ((x_am_canOpponentWin s.1 s.2.1 s.2.2.2.2.2.1 won lost (g.2.2.2.2.2.2 (i + 1))).1)) = (x_mo_canOpponentWin al ro s.1 (g.2.2.2.2.2.2 (i + 1))).2.1 := by
    rcases ag with ⟨et, eo⟩ | ⟨et, eo⟩
    · rw [et, eo]; rfl
    · rw [et, eo]; rfl
  have hB9 : ∀ h1, (z_C h1 hs se sf s s1 nx kp rw ic fi lc fl ∧ q_zone h h1 100 115) → h1.2 223 = some (.inl (4, 1, .inr (.inl f))) := fun h1 hb => (hb.2.2 _ (by omega) (by omega)).trans c223
  refine q_invSH (mc' := 1) (ms' := 6) (d' := d - 1) (as := [.ref 100, .int ((g.2.2.2.2.2.2 (i + 1))), .ref 223]) dL_law_1669 kM_L_canOpponentWin kL_L_250 kT_L_canOpponentWin rfl rfl rfl (Nat.le_of_ble_eq_true rfl) (by omega) (by decide) (by omega) (by omega) (e_L_canOpponentWin (d := d - 1) (dd := d - 2) w.1.c0 hB9 ho9 (c_canOpponentWin (g := g) (h := h) (d := d - 2) w (g.2.2.2.2.2.2 (i + 1)) (by omega)) (by omega)) (q_kC (fun h1 hB => ?_)) q_xC
  obtain ⟨h0, ⟨wc1, q1⟩, e9⟩ := hB
  obtain ⟨f2, c223b, hf2⟩ := z_outL_c (o := q_oB ((x_am_canOpponentWin s.1 s.2.1 s.2.2.2.2.2.1 won lost (g.2.2.2.2.2.2 (i + 1))).1)) (hB9 h0 ⟨wc1, q1⟩)
  have qs : q_same h0 h1 223 1 := e9 ▸ z_outL_same
  rw [← e9] at c223b
  clear e9
  have hz : 225 ≤ h.1 := w.2.2.2.2.2.2.2.2.2.s0
  have hz0 : h.1 ≤ h0.1 := q1.1
  have c224b : h1.2 224 = _ := (qs.2 _ (by omega) (by omega)).trans ((q1.2 _ (by omega) (by omega)).trans c224)
  have w1 := wc1.keep (qs.wide (by omega) (by omega))
  have m1 := m.keepI (h1 := h1) (Nat.le_trans q1.1 qs.1) (fun j b1 b2 => (qs.2 j (by omega) (by omega)).trans (q1.2 j (by omega) (by omega)))
  clear wc1 hB9 ho9 m
  change q_W _ _ _ _ _ _ _ _ 1672 [.ref 0, .ref 100, .ref 215, .ref 223, .ref 224, .int (nI i), q_u, q_u, q_u] [.int (z_cd [("java/util/NoSuchElementException", 1)] (q_oB ((x_am_canOpponentWin s.1 s.2.1 s.2.2.2.2.2.1 won lost (g.2.2.2.2.2.2 (i + 1))).1)))] h1
  rw [hcd]
  refine q_istore dL_law_1672 (by decide) rfl ?_
  change q_W _ _ _ _ _ _ _ _ 1674 [.ref 0, .ref 100, .ref 215, .ref 223, .ref 224, .int (nI i), .int ((x_mo_canOpponentWin al ro s.1 (g.2.2.2.2.2.2 (i + 1))).2.1), q_u, q_u] [] h1
  refine q_aload_n (by first | assumption | (rw [q_R0e]; omega)) dL_law_1674 rfl ?_
  refine q_aload_nO ho dL_law_1675 rfl ?_
  refine q_iload dL_law_1676 rfl ?_
  refine q_iconst (v := 1) dL_law_1678 rfl ?_
  refine q_iaddN (a := i) (b := 1) dL_law_1679 ?_
  refine q_taldIN (by decide) dL_law_1680 (rfl : q_ar g 0 = _) (by omega) hN ?_
  change q_W _ _ _ _ _ _ _ _ _ _ [.int (g.2.2.2.2.2.2 (i + 1)), .ref 215] _
  refine q_invV (mc' := 0) (ms' := 0) (d' := d - 1) (as := [.int ((g.2.2.2.2.2.2 (i + 1)))]) dL_law_1681 kM_X11_canOpponentWin kL_L_252 kI_X11_canOpponentWin kS_X11_canOpponentWin rfl (kC_X11.1) m1.c0 rfl rfl (Nat.le_of_ble_eq_true rfl) (by omega) (by decide) (by omega) (by omega) (r_canOpponentWin (g := g) (d := d - 1) m1 e0 hn e3 hm (g.2.2.2.2.2.2 (i + 1)) (by omega)) (q_kC (fun h3 hB3 => ?_)) q_xC
  obtain ⟨m3, q3⟩ := hB3
  obtain ⟨rs3, ac3, rj3, ro3, bf3, he3, er3, cm3, cn3, m3⟩ := m3
  change q_W _ _ _ _ _ _ _ _ 1684 [.ref 0, .ref 100, .ref 215, .ref 223, .ref 224, .int (nI i), .int ((x_mo_canOpponentWin al ro s.1 (g.2.2.2.2.2.2 (i + 1))).2.1), q_u, q_u] [.int (z_b ((x_mo_canOpponentWin al ro s.1 (g.2.2.2.2.2.2 (i + 1))).1))] h3
  refine q_istore dL_law_1684 (by decide) rfl ?_
  change q_W _ _ _ _ _ _ _ _ 1686 [.ref 0, .ref 100, .ref 215, .ref 223, .ref 224, .int (nI i), .int ((x_mo_canOpponentWin al ro s.1 (g.2.2.2.2.2.2 (i + 1))).2.1), .int (z_b ((x_mo_canOpponentWin al ro s.1 (g.2.2.2.2.2.2 (i + 1))).1)), q_u] [] h3
  refine q_aload_n (by first | assumption | (rw [q_R0e]; omega)) dL_law_1686 rfl ?_
  refine q_invV (mc' := 0) (ms' := 0) (d' := d - 1) (as := []) dL_law_1687 kM_X11_thrown kL_L_166 kI_X11_thrown kS_X11_thrown rfl (kC_X11.1) m3.c0 rfl rfl (Nat.le_of_ble_eq_true rfl) (by omega) (by decide) (by omega) (by omega) (e_mo_thrownR (d := d - 1) m3 (by omega)) (q_kR ?_) q_xR
  change q_W _ _ _ _ _ _ _ _ 1690 [.ref 0, .ref 100, .ref 215, .ref 223, .ref 224, .int (nI i), .int ((x_mo_canOpponentWin al ro s.1 (g.2.2.2.2.2.2 (i + 1))).2.1), .int (z_b ((x_mo_canOpponentWin al ro s.1 (g.2.2.2.2.2.2 (i + 1))).1)), q_u] [.int ((x_mo_canOpponentWin al ro s.1 (g.2.2.2.2.2.2 (i + 1))).2.1)] h3
  refine q_iload dL_law_1690 rfl ?_
  refine q_icmp_eq 1697 dL_law_1692 (by decide) (fun _ => ?_) (fun b => absurd rfl b)
  refine q_iload dL_law_1697 rfl ?_
  have hz3 : h1.1 ≤ h3.1 := q3.1
  have hz4 : h0.1 ≤ h1.1 := qs.1
  have fin : q_W g mL_law d mc ms Q (kc + 1) (ks + 6) 1721 [.ref 0, .ref 100, .ref 215, .ref 223, .ref 224, .int (nI i), .int ((x_mo_canOpponentWin al ro s.1 (g.2.2.2.2.2.2 (i + 1))).2.1), .int (z_b ((x_mo_canOpponentWin al ro s.1 (g.2.2.2.2.2.2 (i + 1))).1)), q_u] [] h3 := by
    refine q_goto 2985 dL_law_1721 (by decide) ?_
    refine q_forget 6 ?_
    refine q_forget 7 ?_
    change q_W _ _ _ _ _ _ _ _ 2985 [.ref 0, .ref 100, .ref 215, .ref 223, .ref 224, .int (nI i), q_u, q_u, q_u] [] h3
    exact q_widen (by omega) (by omega) (K h3 ⟨_, _, _, _, _, _, _, _, _, _, _, _, _, _, _, _, _, _, _, _, _, _, w1.keep (q3.wide (by omega) (by omega)), ⟨_, ⟨_, _, _, _, _, _, _, _, _, m3⟩⟩, ⟨_, (q3.2 _ (by omega) (by omega)).trans c223b⟩, ⟨_, (q3.2 _ (by omega) (by omega)).trans c224b⟩, J2⟩)
  refine q_if_ne 1721 dL_law_1699 (by decide) (fun _ => fin) (fun b => ?_)
  have eo9 : (q_oB ((x_am_canOpponentWin s.1 s.2.1 s.2.2.2.2.2.1 won lost (g.2.2.2.2.2.2 (i + 1))).1)) = .inl (some (.int (z_b ((x_mo_canOpponentWin al ro s.1 (g.2.2.2.2.2.2 (i + 1))).1)))) := by
    rcases ag with ⟨et, eo⟩ | ⟨et, eo⟩
    · exact absurd (et.symm.trans b) (by decide)
    · exact eo
  have ev := hf2 _ eo9
  refine q_aload_n (by first | assumption | (rw [q_R0e]; omega)) dL_law_1702 rfl ?_
  refine q_iconst (v := 0) dL_law_1703 rfl ?_
  refine q_lald (f := f2) dL_law_1704 ((q3.2 _ (by omega) (by omega)).trans c223b) (vp_in_nI (n := 0) (N := 1) (by decide) (by decide)) ?_
  change q_W _ _ _ _ _ _ _ _ _ _ [.long (f2 0)] _
  rw [ev]
  refine q_iload dL_law_1705 rfl ?_
  have hlc : q_W g mL_law d mc ms Q (kc + 1) (ks + 6) 1715 [.ref 0, .ref 100, .ref 215, .ref 223, .ref 224, .int (nI i), .int ((x_mo_canOpponentWin al ro s.1 (g.2.2.2.2.2.2 (i + 1))).2.1), .int (z_b ((x_mo_canOpponentWin al ro s.1 (g.2.2.2.2.2.2 (i + 1))).1)), q_u] [.long (z_b ((x_mo_canOpponentWin al ro s.1 (g.2.2.2.2.2.2 (i + 1))).1)).toInt64, .long (z_b ((x_mo_canOpponentWin al ro s.1 (g.2.2.2.2.2.2 (i + 1))).1)).toInt64] h3 := by
    refine q_lcmp dL_law_1715 ?_
    rw [z_lcmp]
    exact q_if_eq 1721 dL_law_1716 (by decide) (fun _ => fin) (fun b => absurd rfl b)
  revert hlc
  cases (x_mo_canOpponentWin al ro s.1 (g.2.2.2.2.2.2 (i + 1))).1 with
  | false =>
    intro hlc
    refine q_if_eq 1714 dL_law_1707 (by decide) (fun _ => ?_) (fun b => absurd rfl b)
    exact q_lconst (v := 0) dL_law_1714 (by decide) hlc
  | true =>
    intro hlc
    refine q_if_eq 1714 dL_law_1707 (by decide) (fun b => absurd b (by decide)) (fun _ => ?_)
    refine q_lconst (v := 1) dL_law_1710 (by decide) ?_
    exact q_goto 1715 dL_law_1711 (by decide) hlc
set_option maxRecDepth 100000 in
set_option maxHeartbeats 4000000 in
theorem l_c_acceptedCount {g : q_G} {h : q_H} {d mc ms kc ks i t : Nat} {Q : q_O → q_H → Prop} (hP : z_P_acceptedCount) (hI : z_I t h) (ht : t < 512) (hi : i + 2 < g.2.2.2.2.2.1) (hN : g.2.2.2.2.2.1 < 2 ^ 31) (ho : q_isold g 0) (hd : 26 ≤ d) (hkc : kc + 66 ≤ mc) (hks : ks + 10588 ≤ ms) (K : ∀ h2, z_I (t + 1) h2 → q_W g mL_law d mc ms Q (kc + 66) (ks + 10588) 2985 [.ref 0, .ref 100, .ref 215, .ref 223, .ref 224, .int (nI i), q_u, q_u, q_u] [] h2) : q_W g mL_law d mc ms Q kc ks 1724 [.ref 0, .ref 100, .ref 215, .ref 223, .ref 224, .int (nI i), q_u, q_u, q_u] [] h := by
  obtain ⟨hs, se, sf, s, s1, nx, kp, rw, ic, fi, lc, fl, al, cg, sv, ad, ln, lz, ip, ty, ea, fa, wc, ⟨th, wm⟩, ⟨f, c223⟩, ⟨fd, c224⟩, J⟩ := hI
  obtain ⟨s2, ca, cj, co, won, lost, pf, cv, sc, pc, pp, po, vb, oa, ob, w⟩ := wc
  obtain ⟨rs, ac, rj, ro, bf, he, er, cm, cn, m⟩ := wm
  obtain ⟨e0, hn, e3, hm⟩ := J.n0
  obtain ⟨ag, J2⟩ := hP t hs se sf s s1 nx kp rw ic fi lc fl al cg sv ad ln lz ip ty ea fa co ro  ht J
  refine q_aload_n (by first | assumption | (rw [q_R0e]; omega)) dL_law_1724 rfl ?_
  refine q_invV (mc' := 0) (ms' := 0) (d' := d - 1) (as := []) dL_law_1725 kM_X10_acceptedCount kL_L_253 kI_X10_acceptedCount kS_X10_acceptedCount rfl (kC_X10.1) w.1.c0 rfl rfl (Nat.le_of_ble_eq_true rfl) (by omega) (by decide) (by omega) (by omega) (c_acceptedCount (g := g) (h := h) (d := d - 1) w (by omega)) (q_kC (fun h1 hB => ?_)) q_xC
  obtain ⟨w1, q1⟩ := hB
  have hz : 225 ≤ h.1 := w.2.2.2.2.2.2.2.2.2.s0
  have hz0 : h.1 ≤ h1.1 := q1.1
  have m1 := m.keepI (h1 := h1) q1.1 (fun j b1 b2 => q1.2 j (by omega) (by omega))
  have c223b := (q1.2 _ (by omega) (by omega)).trans c223
  have c224b := (q1.2 _ (by omega) (by omega)).trans c224
  change q_W _ _ _ _ _ _ _ _ 1728 [.ref 0, .ref 100, .ref 215, .ref 223, .ref 224, .int (nI i), q_u, q_u, q_u] [.int ((x_am_acceptedCount s.1 s.2.2.2.2.2.1 co).1)] h1
  rw [ag]
  refine q_aload_n (by first | assumption | (rw [q_R0e]; omega)) dL_law_1728 rfl ?_
  refine q_invV (mc' := 0) (ms' := 0) (d' := d - 1) (as := []) dL_law_1729 kM_X11_acceptedCount kL_L_256 kI_X11_acceptedCount kS_X11_acceptedCount rfl (kC_X11.1) m1.c0 rfl rfl (Nat.le_of_ble_eq_true rfl) (by omega) (by decide) (by omega) (by omega) (r_acceptedCount (g := g) (d := d - 1) m1 e0 hn e3 hm (by omega)) (q_kC (fun h3 hB3 => ?_)) q_xC
  obtain ⟨m3, q3⟩ := hB3
  change q_W _ _ _ _ _ _ _ _ 1732 [.ref 0, .ref 100, .ref 215, .ref 223, .ref 224, .int (nI i), q_u, q_u, q_u] [.int ((x_mo_acceptedCount al ro s.1).1), .int ((x_mo_acceptedCount al ro s.1).1)] h3
  refine q_icmp_eq 2985 dL_law_1732 (by decide) (fun _ => ?_) (fun b => absurd rfl b)
  exact q_widen (by omega) (by omega) (K h3 ⟨_, _, _, _, _, _, _, _, _, _, _, _, _, _, _, _, _, _, _, _, _, _, w1.keep (q3.wide (by omega) (by omega)), ⟨_, m3⟩, ⟨_, (q3.2 _ (by omega) (by omega)).trans c223b⟩, ⟨_, (q3.2 _ (by omega) (by omega)).trans c224b⟩, J2⟩)
set_option maxRecDepth 100000 in
set_option maxHeartbeats 4000000 in
theorem l_c_undecidedCount {g : q_G} {h : q_H} {d mc ms kc ks i t : Nat} {Q : q_O → q_H → Prop} (hP : z_P_undecidedCount) (hI : z_I t h) (ht : t < 512) (hi : i + 2 < g.2.2.2.2.2.1) (hN : g.2.2.2.2.2.1 < 2 ^ 31) (ho : q_isold g 0) (hd : 26 ≤ d) (hkc : kc + 66 ≤ mc) (hks : ks + 10588 ≤ ms) (K : ∀ h2, z_I (t + 1) h2 → q_W g mL_law d mc ms Q (kc + 66) (ks + 10588) 2985 [.ref 0, .ref 100, .ref 215, .ref 223, .ref 224, .int (nI i), q_u, q_u, q_u] [] h2) : q_W g mL_law d mc ms Q kc ks 1737 [.ref 0, .ref 100, .ref 215, .ref 223, .ref 224, .int (nI i), q_u, q_u, q_u] [] h := by
  obtain ⟨hs, se, sf, s, s1, nx, kp, rw, ic, fi, lc, fl, al, cg, sv, ad, ln, lz, ip, ty, ea, fa, wc, ⟨th, wm⟩, ⟨f, c223⟩, ⟨fd, c224⟩, J⟩ := hI
  obtain ⟨s2, ca, cj, co, won, lost, pf, cv, sc, pc, pp, po, vb, oa, ob, w⟩ := wc
  obtain ⟨rs, ac, rj, ro, bf, he, er, cm, cn, m⟩ := wm
  obtain ⟨e0, hn, e3, hm⟩ := J.n0
  obtain ⟨ag, J2⟩ := hP t hs se sf s s1 nx kp rw ic fi lc fl al cg sv ad ln lz ip ty ea fa co ro  ht J
  refine q_aload_n (by first | assumption | (rw [q_R0e]; omega)) dL_law_1737 rfl ?_
  refine q_invV (mc' := 0) (ms' := 0) (d' := d - 1) (as := []) dL_law_1738 kM_X10_undecidedCount kL_L_257 kI_X10_undecidedCount kS_X10_undecidedCount rfl (kC_X10.1) w.1.c0 rfl rfl (Nat.le_of_ble_eq_true rfl) (by omega) (by decide) (by omega) (by omega) (c_undecidedCount (g := g) (h := h) (d := d - 1) w (by omega)) (q_kC (fun h1 hB => ?_)) q_xC
  obtain ⟨w1, q1⟩ := hB
  have hz : 225 ≤ h.1 := w.2.2.2.2.2.2.2.2.2.s0
  have hz0 : h.1 ≤ h1.1 := q1.1
  have m1 := m.keepI (h1 := h1) q1.1 (fun j b1 b2 => q1.2 j (by omega) (by omega))
  have c223b := (q1.2 _ (by omega) (by omega)).trans c223
  have c224b := (q1.2 _ (by omega) (by omega)).trans c224
  change q_W _ _ _ _ _ _ _ _ 1741 [.ref 0, .ref 100, .ref 215, .ref 223, .ref 224, .int (nI i), q_u, q_u, q_u] [.int ((x_am_undecidedCount s.1 s.2.2.2.2.2.1 co).1)] h1
  rw [ag]
  refine q_aload_n (by first | assumption | (rw [q_R0e]; omega)) dL_law_1741 rfl ?_
  refine q_invV (mc' := 0) (ms' := 0) (d' := d - 1) (as := []) dL_law_1742 kM_X11_undecidedCount kL_L_260 kI_X11_undecidedCount kS_X11_undecidedCount rfl (kC_X11.1) m1.c0 rfl rfl (Nat.le_of_ble_eq_true rfl) (by omega) (by decide) (by omega) (by omega) (r_undecidedCount (g := g) (d := d - 1) m1 e0 hn e3 hm (by omega)) (q_kC (fun h3 hB3 => ?_)) q_xC
  obtain ⟨m3, q3⟩ := hB3
  change q_W _ _ _ _ _ _ _ _ 1745 [.ref 0, .ref 100, .ref 215, .ref 223, .ref 224, .int (nI i), q_u, q_u, q_u] [.int ((x_mo_undecidedCount al ro s.1).1), .int ((x_mo_undecidedCount al ro s.1).1)] h3
  refine q_icmp_eq 2985 dL_law_1745 (by decide) (fun _ => ?_) (fun b => absurd rfl b)
  exact q_widen (by omega) (by omega) (K h3 ⟨_, _, _, _, _, _, _, _, _, _, _, _, _, _, _, _, _, _, _, _, _, _, w1.keep (q3.wide (by omega) (by omega)), ⟨_, m3⟩, ⟨_, (q3.2 _ (by omega) (by omega)).trans c223b⟩, ⟨_, (q3.2 _ (by omega) (by omega)).trans c224b⟩, J2⟩)
set_option maxRecDepth 100000 in
set_option maxHeartbeats 4000000 in
theorem l_c_stableCount {g : q_G} {h : q_H} {d mc ms kc ks i t : Nat} {Q : q_O → q_H → Prop} (hP : z_P_stableCount) (hI : z_I t h) (ht : t < 512) (hi : i + 2 < g.2.2.2.2.2.1) (hN : g.2.2.2.2.2.1 < 2 ^ 31) (ho : q_isold g 0) (hd : 26 ≤ d) (hkc : kc + 66 ≤ mc) (hks : ks + 10588 ≤ ms) (K : ∀ h2, z_I (t + 1) h2 → q_W g mL_law d mc ms Q (kc + 66) (ks + 10588) 2985 [.ref 0, .ref 100, .ref 215, .ref 223, .ref 224, .int (nI i), q_u, q_u, q_u] [] h2) : q_W g mL_law d mc ms Q kc ks 1750 [.ref 0, .ref 100, .ref 215, .ref 223, .ref 224, .int (nI i), q_u, q_u, q_u] [] h := by
  obtain ⟨hs, se, sf, s, s1, nx, kp, rw, ic, fi, lc, fl, al, cg, sv, ad, ln, lz, ip, ty, ea, fa, wc, ⟨th, wm⟩, ⟨f, c223⟩, ⟨fd, c224⟩, J⟩ := hI
  obtain ⟨s2, ca, cj, co, won, lost, pf, cv, sc, pc, pp, po, vb, oa, ob, w⟩ := wc
  obtain ⟨rs, ac, rj, ro, bf, he, er, cm, cn, m⟩ := wm
  obtain ⟨e0, hn, e3, hm⟩ := J.n0
  obtain ⟨ag, J2⟩ := hP t hs se sf s s1 nx kp rw ic fi lc fl al cg sv ad ln lz ip ty ea fa   ht J
  refine q_aload_n (by first | assumption | (rw [q_R0e]; omega)) dL_law_1750 rfl ?_
  refine q_invV (mc' := 0) (ms' := 0) (d' := d - 1) (as := []) dL_law_1751 kM_X10_stableCount kL_L_261 kI_X10_stableCount kS_X10_stableCount rfl (kC_X10.1) w.1.c0 rfl rfl (Nat.le_of_ble_eq_true rfl) (by omega) (by decide) (by omega) (by omega) (c_stableCount (g := g) (h := h) (d := d - 1) w (by omega)) (q_kC (fun h1 hB => ?_)) q_xC
  obtain ⟨w1, q1⟩ := hB
  have hz : 225 ≤ h.1 := w.2.2.2.2.2.2.2.2.2.s0
  have hz0 : h.1 ≤ h1.1 := q1.1
  have m1 := m.keepI (h1 := h1) q1.1 (fun j b1 b2 => q1.2 j (by omega) (by omega))
  have c223b := (q1.2 _ (by omega) (by omega)).trans c223
  have c224b := (q1.2 _ (by omega) (by omega)).trans c224
  change q_W _ _ _ _ _ _ _ _ 1754 [.ref 0, .ref 100, .ref 215, .ref 223, .ref 224, .int (nI i), q_u, q_u, q_u] [.int ((x_am_stableCount s.1 s.2.2.2.2.2.1))] h1
  rw [ag]
  refine q_aload_n (by first | assumption | (rw [q_R0e]; omega)) dL_law_1754 rfl ?_
  refine q_invV (mc' := 0) (ms' := 0) (d' := d - 1) (as := []) dL_law_1755 kM_X11_stableCount kL_L_264 kI_X11_stableCount kS_X11_stableCount rfl (kC_X11.1) m1.c0 rfl rfl (Nat.le_of_ble_eq_true rfl) (by omega) (by decide) (by omega) (by omega) (r_stableCount (g := g) (d := d - 1) m1 e0 hn e3 hm (by omega)) (q_kC (fun h3 hB3 => ?_)) q_xC
  obtain ⟨m3, q3⟩ := hB3
  change q_W _ _ _ _ _ _ _ _ 1758 [.ref 0, .ref 100, .ref 215, .ref 223, .ref 224, .int (nI i), q_u, q_u, q_u] [.int ((x_mo_stableCount al s.1).1), .int ((x_mo_stableCount al s.1).1)] h3
  refine q_icmp_eq 2985 dL_law_1758 (by decide) (fun _ => ?_) (fun b => absurd rfl b)
  exact q_widen (by omega) (by omega) (K h3 ⟨_, _, _, _, _, _, _, _, _, _, _, _, _, _, _, _, _, _, _, _, _, _, w1.keep (q3.wide (by omega) (by omega)), ⟨_, m3⟩, ⟨_, (q3.2 _ (by omega) (by omega)).trans c223b⟩, ⟨_, (q3.2 _ (by omega) (by omega)).trans c224b⟩, J2⟩)
set_option maxRecDepth 100000 in
set_option maxHeartbeats 4000000 in
theorem l_c_stableCountByLabels {g : q_G} {h : q_H} {d mc ms kc ks i t : Nat} {Q : q_O → q_H → Prop} (hP : z_P_stableCountByLabels) (hI : z_I t h) (ht : t < 512) (hi : i + 2 < g.2.2.2.2.2.1) (hN : g.2.2.2.2.2.1 < 2 ^ 31) (ho : q_isold g 0) (hd : 26 ≤ d) (hkc : kc + 66 ≤ mc) (hks : ks + 10588 ≤ ms) (K : ∀ h2, z_I (t + 1) h2 → q_W g mL_law d mc ms Q (kc + 66) (ks + 10588) 2985 [.ref 0, .ref 100, .ref 215, .ref 223, .ref 224, .int (nI i), q_u, q_u, q_u] [] h2) : q_W g mL_law d mc ms Q kc ks 1763 [.ref 0, .ref 100, .ref 215, .ref 223, .ref 224, .int (nI i), q_u, q_u, q_u] [] h := by
  obtain ⟨hs, se, sf, s, s1, nx, kp, rw, ic, fi, lc, fl, al, cg, sv, ad, ln, lz, ip, ty, ea, fa, wc, ⟨th, wm⟩, ⟨f, c223⟩, ⟨fd, c224⟩, J⟩ := hI
  obtain ⟨s2, ca, cj, co, won, lost, pf, cv, sc, pc, pp, po, vb, oa, ob, w⟩ := wc
  obtain ⟨rs, ac, rj, ro, bf, he, er, cm, cn, m⟩ := wm
  obtain ⟨e0, hn, e3, hm⟩ := J.n0
  obtain ⟨ag, J2⟩ := hP t hs se sf s s1 nx kp rw ic fi lc fl al cg sv ad ln lz ip ty ea fa   ht J
  refine q_aload_n (by first | assumption | (rw [q_R0e]; omega)) dL_law_1763 rfl ?_
  refine q_invV (mc' := 0) (ms' := 0) (d' := d - 1) (as := []) dL_law_1764 kM_X10_stableCountByLabels kL_L_265 kI_X10_stableCountByLabels kS_X10_stableCountByLabels rfl (kC_X10.1) w.1.c0 rfl rfl (Nat.le_of_ble_eq_true rfl) (by omega) (by decide) (by omega) (by omega) (c_stableCountByLabels (g := g) (h := h) (d := d - 1) w (by omega)) (q_kC (fun h1 hB => ?_)) q_xC
  obtain ⟨w1, q1⟩ := hB
  have hz : 225 ≤ h.1 := w.2.2.2.2.2.2.2.2.2.s0
  have hz0 : h.1 ≤ h1.1 := q1.1
  have m1 := m.keepI (h1 := h1) q1.1 (fun j b1 b2 => q1.2 j (by omega) (by omega))
  have c223b := (q1.2 _ (by omega) (by omega)).trans c223
  have c224b := (q1.2 _ (by omega) (by omega)).trans c224
  change q_W _ _ _ _ _ _ _ _ 1767 [.ref 0, .ref 100, .ref 215, .ref 223, .ref 224, .int (nI i), q_u, q_u, q_u] [.int ((x_am_stableCountByLabels s.1 s.2.2.2.2.2.1))] h1
  rw [ag]
  refine q_aload_n (by first | assumption | (rw [q_R0e]; omega)) dL_law_1767 rfl ?_
  refine q_invV (mc' := 0) (ms' := 0) (d' := d - 1) (as := []) dL_law_1768 kM_X11_stableCountByLabels kL_L_268 kI_X11_stableCountByLabels kS_X11_stableCountByLabels rfl (kC_X11.1) m1.c0 rfl rfl (Nat.le_of_ble_eq_true rfl) (by omega) (by decide) (by omega) (by omega) (r_stableCountByLabels (g := g) (d := d - 1) m1 e0 hn e3 hm (by omega)) (q_kC (fun h3 hB3 => ?_)) q_xC
  obtain ⟨m3, q3⟩ := hB3
  change q_W _ _ _ _ _ _ _ _ 1771 [.ref 0, .ref 100, .ref 215, .ref 223, .ref 224, .int (nI i), q_u, q_u, q_u] [.int ((x_mo_stableCountByLabels al s.1).1), .int ((x_mo_stableCountByLabels al s.1).1)] h3
  refine q_icmp_eq 2985 dL_law_1771 (by decide) (fun _ => ?_) (fun b => absurd rfl b)
  exact q_widen (by omega) (by omega) (K h3 ⟨_, _, _, _, _, _, _, _, _, _, _, _, _, _, _, _, _, _, _, _, _, _, w1.keep (q3.wide (by omega) (by omega)), ⟨_, m3⟩, ⟨_, (q3.2 _ (by omega) (by omega)).trans c223b⟩, ⟨_, (q3.2 _ (by omega) (by omega)).trans c224b⟩, J2⟩)
set_option maxRecDepth 100000 in
set_option maxHeartbeats 4000000 in
theorem l_c_preferredCount {g : q_G} {h : q_H} {d mc ms kc ks i t : Nat} {Q : q_O → q_H → Prop} (hP : z_P_preferredCount) (hI : z_I t h) (ht : t < 512) (hi : i + 2 < g.2.2.2.2.2.1) (hN : g.2.2.2.2.2.1 < 2 ^ 31) (ho : q_isold g 0) (hd : 26 ≤ d) (hkc : kc + 66 ≤ mc) (hks : ks + 10588 ≤ ms) (K : ∀ h2, z_I (t + 1) h2 → q_W g mL_law d mc ms Q (kc + 66) (ks + 10588) 2985 [.ref 0, .ref 100, .ref 215, .ref 223, .ref 224, .int (nI i), q_u, q_u, q_u] [] h2) : q_W g mL_law d mc ms Q kc ks 1776 [.ref 0, .ref 100, .ref 215, .ref 223, .ref 224, .int (nI i), q_u, q_u, q_u] [] h := by
  obtain ⟨hs, se, sf, s, s1, nx, kp, rw, ic, fi, lc, fl, al, cg, sv, ad, ln, lz, ip, ty, ea, fa, wc, ⟨th, wm⟩, ⟨f, c223⟩, ⟨fd, c224⟩, J⟩ := hI
  obtain ⟨s2, ca, cj, co, won, lost, pf, cv, sc, pc, pp, po, vb, oa, ob, w⟩ := wc
  obtain ⟨rs, ac, rj, ro, bf, he, er, cm, cn, m⟩ := wm
  obtain ⟨e0, hn, e3, hm⟩ := J.n0
  obtain ⟨p0, ag, J2⟩ := hP t hs se sf s s1 nx kp rw ic fi lc fl al cg sv ad ln lz ip ty ea fa pf cv  ht J
  refine q_aload_n (by first | assumption | (rw [q_R0e]; omega)) dL_law_1776 rfl ?_
  refine q_invV (mc' := 0) (ms' := 0) (d' := d - 1) (as := []) dL_law_1777 kM_X10_preferredCount kL_L_269 kI_X10_preferredCount kS_X10_preferredCount rfl (kC_X10.1) w.1.c0 rfl rfl (Nat.le_of_ble_eq_true rfl) (by omega) (by decide) (by omega) (by omega) (c_preferredCount (g := g) (h := h) (d := d - 1) w (by omega)) (q_kC (fun h1 hB => ?_)) q_xC
  obtain ⟨w1, q1⟩ := hB
  have hz : 225 ≤ h.1 := w.2.2.2.2.2.2.2.2.2.s0
  have hz0 : h.1 ≤ h1.1 := q1.1
  have m1 := m.keepI (h1 := h1) q1.1 (fun j b1 b2 => q1.2 j (by omega) (by omega))
  have c223b := (q1.2 _ (by omega) (by omega)).trans c223
  have c224b := (q1.2 _ (by omega) (by omega)).trans c224
  change q_W _ _ _ _ _ _ _ _ 1780 [.ref 0, .ref 100, .ref 215, .ref 223, .ref 224, .int (nI i), q_u, q_u, q_u] [.int ((x_am_preferredCount s.1 s.2.2.2.2.2.1 pf cv).1)] h1
  rw [ag]
  refine q_aload_n (by first | assumption | (rw [q_R0e]; omega)) dL_law_1780 rfl ?_
  refine q_invV (mc' := 0) (ms' := 0) (d' := d - 1) (as := []) dL_law_1781 kM_X11_preferredCount kL_L_272 kI_X11_preferredCount kS_X11_preferredCount rfl (kC_X11.1) m1.c0 rfl rfl (Nat.le_of_ble_eq_true rfl) (by omega) (by decide) (by omega) (by omega) (r_preferredCount (g := g) (d := d - 1) m1 e0 hn e3 hm p0 (by omega)) (q_kC (fun h3 hB3 => ?_)) q_xC
  obtain ⟨m3, q3⟩ := hB3
  change q_W _ _ _ _ _ _ _ _ 1784 [.ref 0, .ref 100, .ref 215, .ref 223, .ref 224, .int (nI i), q_u, q_u, q_u] [.int ((x_mo_preferredCount al ad s.1).1), .int ((x_mo_preferredCount al ad s.1).1)] h3
  refine q_icmp_eq 2985 dL_law_1784 (by decide) (fun _ => ?_) (fun b => absurd rfl b)
  exact q_widen (by omega) (by omega) (K h3 ⟨_, _, _, _, _, _, _, _, _, _, _, _, _, _, _, _, _, _, _, _, _, _, w1.keep (q3.wide (by omega) (by omega)), ⟨_, m3⟩, ⟨_, (q3.2 _ (by omega) (by omega)).trans c223b⟩, ⟨_, (q3.2 _ (by omega) (by omega)).trans c224b⟩, J2⟩)
set_option maxRecDepth 100000 in
set_option maxHeartbeats 4000000 in
theorem l_c_greatestAdmissible {g : q_G} {h : q_H} {d mc ms kc ks i t : Nat} {Q : q_O → q_H → Prop} (hP : z_P_greatestAdmissible) (hI : z_I t h) (ht : t < 512) (hi : i + 2 < g.2.2.2.2.2.1) (hN : g.2.2.2.2.2.1 < 2 ^ 31) (ho : q_isold g 0) (hd : 26 ≤ d) (hkc : kc + 66 ≤ mc) (hks : ks + 10588 ≤ ms) (K : ∀ h2, z_I (t + 1) h2 → q_W g mL_law d mc ms Q (kc + 66) (ks + 10588) 2985 [.ref 0, .ref 100, .ref 215, .ref 223, .ref 224, .int (nI i), q_u, q_u, q_u] [] h2) : q_W g mL_law d mc ms Q kc ks 1789 [.ref 0, .ref 100, .ref 215, .ref 223, .ref 224, .int (nI i), q_u, q_u, q_u] [] h := by
  obtain ⟨hs, se, sf, s, s1, nx, kp, rw, ic, fi, lc, fl, al, cg, sv, ad, ln, lz, ip, ty, ea, fa, wc, ⟨th, wm⟩, ⟨f, c223⟩, ⟨fd, c224⟩, J⟩ := hI
  obtain ⟨s2, ca, cj, co, won, lost, pf, cv, sc, pc, pp, po, vb, oa, ob, w⟩ := wc
  obtain ⟨rs, ac, rj, ro, bf, he, er, cm, cn, m⟩ := wm
  obtain ⟨e0, hn, e3, hm⟩ := J.n0
  obtain ⟨ag, J2⟩ := hP t hs se sf s s1 nx kp rw ic fi lc fl al cg sv ad ln lz ip ty ea fa   ht J
  refine q_aload_n (by first | assumption | (rw [q_R0e]; omega)) dL_law_1789 rfl ?_
  refine q_invV (mc' := 0) (ms' := 0) (d' := d - 1) (as := []) dL_law_1790 kM_X10_greatestAdmissible kL_L_273 kI_X10_greatestAdmissible kS_X10_greatestAdmissible rfl (kC_X10.1) w.1.c0 rfl rfl (Nat.le_of_ble_eq_true rfl) (by omega) (by decide) (by omega) (by omega) (c_greatestAdmissible (g := g) (h := h) (d := d - 1) w (by omega)) (q_kC (fun h1 hB => ?_)) q_xC
  obtain ⟨w1, q1⟩ := hB
  have hz : 225 ≤ h.1 := w.2.2.2.2.2.2.2.2.2.s0
  have hz0 : h.1 ≤ h1.1 := q1.1
  have m1 := m.keepI (h1 := h1) q1.1 (fun j b1 b2 => q1.2 j (by omega) (by omega))
  have c223b := (q1.2 _ (by omega) (by omega)).trans c223
  have c224b := (q1.2 _ (by omega) (by omega)).trans c224
  change q_W _ _ _ _ _ _ _ _ 1793 [.ref 0, .ref 100, .ref 215, .ref 223, .ref 224, .int (nI i), q_u, q_u, q_u] [.int ((x_am_greatestAdmissible s.1 s.2.2.2.2.2.1))] h1
  rw [ag]
  refine q_aload_n (by first | assumption | (rw [q_R0e]; omega)) dL_law_1793 rfl ?_
  refine q_invV (mc' := 0) (ms' := 0) (d' := d - 1) (as := []) dL_law_1794 kM_X11_greatestAdmissible kL_L_276 kI_X11_greatestAdmissible kS_X11_greatestAdmissible rfl (kC_X11.1) m1.c0 rfl rfl (Nat.le_of_ble_eq_true rfl) (by omega) (by decide) (by omega) (by omega) (r_greatestAdmissible (g := g) (d := d - 1) m1 e0 hn e3 hm (by omega)) (q_kC (fun h3 hB3 => ?_)) q_xC
  obtain ⟨m3, q3⟩ := hB3
  change q_W _ _ _ _ _ _ _ _ 1797 [.ref 0, .ref 100, .ref 215, .ref 223, .ref 224, .int (nI i), q_u, q_u, q_u] [.int ((x_mo_greatestAdmissible al s.1).1), .int ((x_mo_greatestAdmissible al s.1).1)] h3
  refine q_icmp_eq 2985 dL_law_1797 (by decide) (fun _ => ?_) (fun b => absurd rfl b)
  exact q_widen (by omega) (by omega) (K h3 ⟨_, _, _, _, _, _, _, _, _, _, _, _, _, _, _, _, _, _, _, _, _, _, w1.keep (q3.wide (by omega) (by omega)), ⟨_, m3⟩, ⟨_, (q3.2 _ (by omega) (by omega)).trans c223b⟩, ⟨_, (q3.2 _ (by omega) (by omega)).trans c224b⟩, J2⟩)
set_option maxRecDepth 100000 in
set_option maxHeartbeats 4000000 in
theorem l_c_isCredible {g : q_G} {h : q_H} {d mc ms kc ks i t : Nat} {Q : q_O → q_H → Prop} (hP : z_P_isCredible) (hI : z_I t h) (ht : t < 512) (hi : i + 2 < g.2.2.2.2.2.1) (hN : g.2.2.2.2.2.1 < 2 ^ 31) (ho : q_isold g 0) (hd : 26 ≤ d) (hkc : kc + 66 ≤ mc) (hks : ks + 10588 ≤ ms) (K : ∀ h2, z_I (t + 1) h2 → q_W g mL_law d mc ms Q (kc + 66) (ks + 10588) 2985 [.ref 0, .ref 100, .ref 215, .ref 223, .ref 224, .int (nI i), q_u, q_u, q_u] [] h2) : q_W g mL_law d mc ms Q kc ks 1802 [.ref 0, .ref 100, .ref 215, .ref 223, .ref 224, .int (nI i), q_u, q_u, q_u] [] h := by
  obtain ⟨hs, se, sf, s, s1, nx, kp, rw, ic, fi, lc, fl, al, cg, sv, ad, ln, lz, ip, ty, ea, fa, wc, ⟨th, wm⟩, ⟨f, c223⟩, ⟨fd, c224⟩, J⟩ := hI
  obtain ⟨s2, ca, cj, co, won, lost, pf, cv, sc, pc, pp, po, vb, oa, ob, w⟩ := wc
  obtain ⟨rs, ac, rj, ro, bf, he, er, cm, cn, m⟩ := wm
  obtain ⟨e0, hn, e3, hm⟩ := J.n0
  obtain ⟨p0, ag, J2⟩ := hP t hs se sf s s1 nx kp rw ic fi lc fl al cg sv ad ln lz ip ty ea fa pf cv sc (g.2.2.2.2.2.2 (i + 1)) ht J
  refine q_aload_n (by first | assumption | (rw [q_R0e]; omega)) dL_law_1802 rfl ?_
  refine q_aload_nO ho dL_law_1803 rfl ?_
  refine q_iload dL_law_1804 rfl ?_
  refine q_iconst (v := 1) dL_law_1806 rfl ?_
  refine q_iaddN (a := i) (b := 1) dL_law_1807 ?_
  refine q_taldIN (by decide) dL_law_1808 (rfl : q_ar g 0 = _) (by omega) hN ?_
  change q_W _ _ _ _ _ _ _ _ _ _ [.int (g.2.2.2.2.2.2 (i + 1)), .ref 100] _
  refine q_aload_n (by first | assumption | (rw [q_R0e]; omega)) dL_law_1809 rfl ?_
  have ho9 : (∃ v, (q_oB ((x_am_isCredible s.1 s.2.1 s.2.2.2.2.2.1 pf cv sc (g.2.2.2.2.2.2 (i + 1))).1)) = .inl (some (.int (z_b v)))) ∨ (q_oB ((x_am_isCredible s.1 s.2.1 s.2.2.2.2.2.1 pf cv sc (g.2.2.2.2.2.2 (i + 1))).1)) = .inr "java/util/NoSuchElementException" := by
    rcases ag with ⟨et, eo⟩ | ⟨et, eo⟩
    · exact Or.inr (eo)
    · exact Or.inl ⟨_, eo⟩
  have hcd : z_cd [("java/util/NoSuchElementException", 1)] (q_oB ((x_am_isCredible s.1 s.2.1 s.2.2.2.2.2.1 pf cv sc (g.2.2.2.2.2.2 (i + 1))).1)) = (x_mo_isCredible al ad s.1 (g.2.2.2.2.2.2 (i + 1))).2.1 := by
    rcases ag with ⟨et, eo⟩ | ⟨et, eo⟩
    · rw [et, eo]; rfl
    · rw [et, eo]; rfl
  have hB9 : ∀ h1, (z_C h1 hs se sf s s1 nx kp rw ic fi lc fl ∧ q_zone h h1 100 115) → h1.2 223 = some (.inl (4, 1, .inr (.inl f))) := fun h1 hb => (hb.2.2 _ (by omega) (by omega)).trans c223
  refine q_invSH (mc' := 2) (ms' := 12) (d' := d - 1) (as := [.ref 100, .int ((g.2.2.2.2.2.2 (i + 1))), .ref 223]) dL_law_1810 kM_L_isCredible kL_L_277 kT_L_isCredible rfl rfl rfl (Nat.le_of_ble_eq_true rfl) (by omega) (by decide) (by omega) (by omega) (e_L_isCredible (d := d - 1) (dd := d - 2) w.1.c0 hB9 ho9 (c_isCredible (g := g) (h := h) (d := d - 2) w (g.2.2.2.2.2.2 (i + 1)) (by omega)) (by omega)) (q_kC (fun h1 hB => ?_)) q_xC
  obtain ⟨h0, ⟨wc1, q1⟩, e9⟩ := hB
  obtain ⟨f2, c223b, hf2⟩ := z_outL_c (o := q_oB ((x_am_isCredible s.1 s.2.1 s.2.2.2.2.2.1 pf cv sc (g.2.2.2.2.2.2 (i + 1))).1)) (hB9 h0 ⟨wc1, q1⟩)
  have qs : q_same h0 h1 223 1 := e9 ▸ z_outL_same
  rw [← e9] at c223b
  clear e9
  have hz : 225 ≤ h.1 := w.2.2.2.2.2.2.2.2.2.s0
  have hz0 : h.1 ≤ h0.1 := q1.1
  have c224b : h1.2 224 = _ := (qs.2 _ (by omega) (by omega)).trans ((q1.2 _ (by omega) (by omega)).trans c224)
  have w1 := wc1.keep (qs.wide (by omega) (by omega))
  have m1 := m.keepI (h1 := h1) (Nat.le_trans q1.1 qs.1) (fun j b1 b2 => (qs.2 j (by omega) (by omega)).trans (q1.2 j (by omega) (by omega)))
  clear wc1 hB9 ho9 m
  change q_W _ _ _ _ _ _ _ _ 1813 [.ref 0, .ref 100, .ref 215, .ref 223, .ref 224, .int (nI i), q_u, q_u, q_u] [.int (z_cd [("java/util/NoSuchElementException", 1)] (q_oB ((x_am_isCredible s.1 s.2.1 s.2.2.2.2.2.1 pf cv sc (g.2.2.2.2.2.2 (i + 1))).1)))] h1
  rw [hcd]
  refine q_istore dL_law_1813 (by decide) rfl ?_
  change q_W _ _ _ _ _ _ _ _ 1815 [.ref 0, .ref 100, .ref 215, .ref 223, .ref 224, .int (nI i), .int ((x_mo_isCredible al ad s.1 (g.2.2.2.2.2.2 (i + 1))).2.1), q_u, q_u] [] h1
  refine q_aload_n (by first | assumption | (rw [q_R0e]; omega)) dL_law_1815 rfl ?_
  refine q_aload_nO ho dL_law_1816 rfl ?_
  refine q_iload dL_law_1817 rfl ?_
  refine q_iconst (v := 1) dL_law_1819 rfl ?_
  refine q_iaddN (a := i) (b := 1) dL_law_1820 ?_
  refine q_taldIN (by decide) dL_law_1821 (rfl : q_ar g 0 = _) (by omega) hN ?_
  change q_W _ _ _ _ _ _ _ _ _ _ [.int (g.2.2.2.2.2.2 (i + 1)), .ref 215] _
  refine q_invV (mc' := 0) (ms' := 0) (d' := d - 1) (as := [.int ((g.2.2.2.2.2.2 (i + 1)))]) dL_law_1822 kM_X11_isCredible kL_L_279 kI_X11_isCredible kS_X11_isCredible rfl (kC_X11.1) m1.c0 rfl rfl (Nat.le_of_ble_eq_true rfl) (by omega) (by decide) (by omega) (by omega) (r_isCredible (g := g) (d := d - 1) m1 e0 hn e3 hm (g.2.2.2.2.2.2 (i + 1)) p0 (by omega)) (q_kC (fun h3 hB3 => ?_)) q_xC
  obtain ⟨m3, q3⟩ := hB3
  obtain ⟨rs3, ac3, rj3, ro3, bf3, he3, er3, cm3, cn3, m3⟩ := m3
  change q_W _ _ _ _ _ _ _ _ 1825 [.ref 0, .ref 100, .ref 215, .ref 223, .ref 224, .int (nI i), .int ((x_mo_isCredible al ad s.1 (g.2.2.2.2.2.2 (i + 1))).2.1), q_u, q_u] [.int (z_b ((x_mo_isCredible al ad s.1 (g.2.2.2.2.2.2 (i + 1))).1))] h3
  refine q_istore dL_law_1825 (by decide) rfl ?_
  change q_W _ _ _ _ _ _ _ _ 1827 [.ref 0, .ref 100, .ref 215, .ref 223, .ref 224, .int (nI i), .int ((x_mo_isCredible al ad s.1 (g.2.2.2.2.2.2 (i + 1))).2.1), .int (z_b ((x_mo_isCredible al ad s.1 (g.2.2.2.2.2.2 (i + 1))).1)), q_u] [] h3
  refine q_aload_n (by first | assumption | (rw [q_R0e]; omega)) dL_law_1827 rfl ?_
  refine q_invV (mc' := 0) (ms' := 0) (d' := d - 1) (as := []) dL_law_1828 kM_X11_thrown kL_L_166 kI_X11_thrown kS_X11_thrown rfl (kC_X11.1) m3.c0 rfl rfl (Nat.le_of_ble_eq_true rfl) (by omega) (by decide) (by omega) (by omega) (e_mo_thrownR (d := d - 1) m3 (by omega)) (q_kR ?_) q_xR
  change q_W _ _ _ _ _ _ _ _ 1831 [.ref 0, .ref 100, .ref 215, .ref 223, .ref 224, .int (nI i), .int ((x_mo_isCredible al ad s.1 (g.2.2.2.2.2.2 (i + 1))).2.1), .int (z_b ((x_mo_isCredible al ad s.1 (g.2.2.2.2.2.2 (i + 1))).1)), q_u] [.int ((x_mo_isCredible al ad s.1 (g.2.2.2.2.2.2 (i + 1))).2.1)] h3
  refine q_iload dL_law_1831 rfl ?_
  refine q_icmp_eq 1838 dL_law_1833 (by decide) (fun _ => ?_) (fun b => absurd rfl b)
  refine q_iload dL_law_1838 rfl ?_
  have hz3 : h1.1 ≤ h3.1 := q3.1
  have hz4 : h0.1 ≤ h1.1 := qs.1
  have fin : q_W g mL_law d mc ms Q (kc + 2) (ks + 12) 1862 [.ref 0, .ref 100, .ref 215, .ref 223, .ref 224, .int (nI i), .int ((x_mo_isCredible al ad s.1 (g.2.2.2.2.2.2 (i + 1))).2.1), .int (z_b ((x_mo_isCredible al ad s.1 (g.2.2.2.2.2.2 (i + 1))).1)), q_u] [] h3 := by
    refine q_goto 2985 dL_law_1862 (by decide) ?_
    refine q_forget 6 ?_
    refine q_forget 7 ?_
    change q_W _ _ _ _ _ _ _ _ 2985 [.ref 0, .ref 100, .ref 215, .ref 223, .ref 224, .int (nI i), q_u, q_u, q_u] [] h3
    exact q_widen (by omega) (by omega) (K h3 ⟨_, _, _, _, _, _, _, _, _, _, _, _, _, _, _, _, _, _, _, _, _, _, w1.keep (q3.wide (by omega) (by omega)), ⟨_, ⟨_, _, _, _, _, _, _, _, _, m3⟩⟩, ⟨_, (q3.2 _ (by omega) (by omega)).trans c223b⟩, ⟨_, (q3.2 _ (by omega) (by omega)).trans c224b⟩, J2⟩)
  refine q_if_ne 1862 dL_law_1840 (by decide) (fun _ => fin) (fun b => ?_)
  have eo9 : (q_oB ((x_am_isCredible s.1 s.2.1 s.2.2.2.2.2.1 pf cv sc (g.2.2.2.2.2.2 (i + 1))).1)) = .inl (some (.int (z_b ((x_mo_isCredible al ad s.1 (g.2.2.2.2.2.2 (i + 1))).1)))) := by
    rcases ag with ⟨et, eo⟩ | ⟨et, eo⟩
    · exact absurd (et.symm.trans b) (by decide)
    · exact eo
  have ev := hf2 _ eo9
  refine q_aload_n (by first | assumption | (rw [q_R0e]; omega)) dL_law_1843 rfl ?_
  refine q_iconst (v := 0) dL_law_1844 rfl ?_
  refine q_lald (f := f2) dL_law_1845 ((q3.2 _ (by omega) (by omega)).trans c223b) (vp_in_nI (n := 0) (N := 1) (by decide) (by decide)) ?_
  change q_W _ _ _ _ _ _ _ _ _ _ [.long (f2 0)] _
  rw [ev]
  refine q_iload dL_law_1846 rfl ?_
  have hlc : q_W g mL_law d mc ms Q (kc + 2) (ks + 12) 1856 [.ref 0, .ref 100, .ref 215, .ref 223, .ref 224, .int (nI i), .int ((x_mo_isCredible al ad s.1 (g.2.2.2.2.2.2 (i + 1))).2.1), .int (z_b ((x_mo_isCredible al ad s.1 (g.2.2.2.2.2.2 (i + 1))).1)), q_u] [.long (z_b ((x_mo_isCredible al ad s.1 (g.2.2.2.2.2.2 (i + 1))).1)).toInt64, .long (z_b ((x_mo_isCredible al ad s.1 (g.2.2.2.2.2.2 (i + 1))).1)).toInt64] h3 := by
    refine q_lcmp dL_law_1856 ?_
    rw [z_lcmp]
    exact q_if_eq 1862 dL_law_1857 (by decide) (fun _ => fin) (fun b => absurd rfl b)
  revert hlc
  cases (x_mo_isCredible al ad s.1 (g.2.2.2.2.2.2 (i + 1))).1 with
  | false =>
    intro hlc
    refine q_if_eq 1855 dL_law_1848 (by decide) (fun _ => ?_) (fun b => absurd rfl b)
    exact q_lconst (v := 0) dL_law_1855 (by decide) hlc
  | true =>
    intro hlc
    refine q_if_eq 1855 dL_law_1848 (by decide) (fun b => absurd b (by decide)) (fun _ => ?_)
    refine q_lconst (v := 1) dL_law_1851 (by decide) ?_
    exact q_goto 1856 dL_law_1852 (by decide) hlc
set_option maxRecDepth 100000 in
set_option maxHeartbeats 4000000 in
theorem l_c_isCertain {g : q_G} {h : q_H} {d mc ms kc ks i t : Nat} {Q : q_O → q_H → Prop} (hP : z_P_isCertain) (hI : z_I t h) (ht : t < 512) (hi : i + 2 < g.2.2.2.2.2.1) (hN : g.2.2.2.2.2.1 < 2 ^ 31) (ho : q_isold g 0) (hd : 26 ≤ d) (hkc : kc + 66 ≤ mc) (hks : ks + 10588 ≤ ms) (K : ∀ h2, z_I (t + 1) h2 → q_W g mL_law d mc ms Q (kc + 66) (ks + 10588) 2985 [.ref 0, .ref 100, .ref 215, .ref 223, .ref 224, .int (nI i), q_u, q_u, q_u] [] h2) : q_W g mL_law d mc ms Q kc ks 1865 [.ref 0, .ref 100, .ref 215, .ref 223, .ref 224, .int (nI i), q_u, q_u, q_u] [] h := by
  obtain ⟨hs, se, sf, s, s1, nx, kp, rw, ic, fi, lc, fl, al, cg, sv, ad, ln, lz, ip, ty, ea, fa, wc, ⟨th, wm⟩, ⟨f, c223⟩, ⟨fd, c224⟩, J⟩ := hI
  obtain ⟨s2, ca, cj, co, won, lost, pf, cv, sc, pc, pp, po, vb, oa, ob, w⟩ := wc
  obtain ⟨rs, ac, rj, ro, bf, he, er, cm, cn, m⟩ := wm
  obtain ⟨e0, hn, e3, hm⟩ := J.n0
  obtain ⟨p0, ag, J2⟩ := hP t hs se sf s s1 nx kp rw ic fi lc fl al cg sv ad ln lz ip ty ea fa pf cv sc (g.2.2.2.2.2.2 (i + 1)) ht J
  refine q_aload_n (by first | assumption | (rw [q_R0e]; omega)) dL_law_1865 rfl ?_
  refine q_aload_nO ho dL_law_1866 rfl ?_
  refine q_iload dL_law_1867 rfl ?_
  refine q_iconst (v := 1) dL_law_1869 rfl ?_
  refine q_iaddN (a := i) (b := 1) dL_law_1870 ?_
  refine q_taldIN (by decide) dL_law_1871 (rfl : q_ar g 0 = _) (by omega) hN ?_
  change q_W _ _ _ _ _ _ _ _ _ _ [.int (g.2.2.2.2.2.2 (i + 1)), .ref 100] _
  refine q_aload_n (by first | assumption | (rw [q_R0e]; omega)) dL_law_1872 rfl ?_
  have ho9 : (∃ v, (q_oB ((x_am_isCertain s.1 s.2.1 s.2.2.2.2.2.1 pf cv sc (g.2.2.2.2.2.2 (i + 1))).1)) = .inl (some (.int (z_b v)))) ∨ (q_oB ((x_am_isCertain s.1 s.2.1 s.2.2.2.2.2.1 pf cv sc (g.2.2.2.2.2.2 (i + 1))).1)) = .inr "java/util/NoSuchElementException" := by
    rcases ag with ⟨et, eo⟩ | ⟨et, eo⟩
    · exact Or.inr (eo)
    · exact Or.inl ⟨_, eo⟩
  have hcd : z_cd [("java/util/NoSuchElementException", 1)] (q_oB ((x_am_isCertain s.1 s.2.1 s.2.2.2.2.2.1 pf cv sc (g.2.2.2.2.2.2 (i + 1))).1)) = (x_mo_isCertain al ad s.1 (g.2.2.2.2.2.2 (i + 1))).2.1 := by
    rcases ag with ⟨et, eo⟩ | ⟨et, eo⟩
    · rw [et, eo]; rfl
    · rw [et, eo]; rfl
  have hB9 : ∀ h1, (z_C h1 hs se sf s s1 nx kp rw ic fi lc fl ∧ q_zone h h1 100 115) → h1.2 223 = some (.inl (4, 1, .inr (.inl f))) := fun h1 hb => (hb.2.2 _ (by omega) (by omega)).trans c223
  refine q_invSH (mc' := 1) (ms' := 6) (d' := d - 1) (as := [.ref 100, .int ((g.2.2.2.2.2.2 (i + 1))), .ref 223]) dL_law_1873 kM_L_isCertain kL_L_280 kT_L_isCertain rfl rfl rfl (Nat.le_of_ble_eq_true rfl) (by omega) (by decide) (by omega) (by omega) (e_L_isCertain (d := d - 1) (dd := d - 2) w.1.c0 hB9 ho9 (c_isCertain (g := g) (h := h) (d := d - 2) w (g.2.2.2.2.2.2 (i + 1)) (by omega)) (by omega)) (q_kC (fun h1 hB => ?_)) q_xC
  obtain ⟨h0, ⟨wc1, q1⟩, e9⟩ := hB
  obtain ⟨f2, c223b, hf2⟩ := z_outL_c (o := q_oB ((x_am_isCertain s.1 s.2.1 s.2.2.2.2.2.1 pf cv sc (g.2.2.2.2.2.2 (i + 1))).1)) (hB9 h0 ⟨wc1, q1⟩)
  have qs : q_same h0 h1 223 1 := e9 ▸ z_outL_same
  rw [← e9] at c223b
  clear e9
  have hz : 225 ≤ h.1 := w.2.2.2.2.2.2.2.2.2.s0
  have hz0 : h.1 ≤ h0.1 := q1.1
  have c224b : h1.2 224 = _ := (qs.2 _ (by omega) (by omega)).trans ((q1.2 _ (by omega) (by omega)).trans c224)
  have w1 := wc1.keep (qs.wide (by omega) (by omega))
  have m1 := m.keepI (h1 := h1) (Nat.le_trans q1.1 qs.1) (fun j b1 b2 => (qs.2 j (by omega) (by omega)).trans (q1.2 j (by omega) (by omega)))
  clear wc1 hB9 ho9 m
  change q_W _ _ _ _ _ _ _ _ 1876 [.ref 0, .ref 100, .ref 215, .ref 223, .ref 224, .int (nI i), q_u, q_u, q_u] [.int (z_cd [("java/util/NoSuchElementException", 1)] (q_oB ((x_am_isCertain s.1 s.2.1 s.2.2.2.2.2.1 pf cv sc (g.2.2.2.2.2.2 (i + 1))).1)))] h1
  rw [hcd]
  refine q_istore dL_law_1876 (by decide) rfl ?_
  change q_W _ _ _ _ _ _ _ _ 1878 [.ref 0, .ref 100, .ref 215, .ref 223, .ref 224, .int (nI i), .int ((x_mo_isCertain al ad s.1 (g.2.2.2.2.2.2 (i + 1))).2.1), q_u, q_u] [] h1
  refine q_aload_n (by first | assumption | (rw [q_R0e]; omega)) dL_law_1878 rfl ?_
  refine q_aload_nO ho dL_law_1879 rfl ?_
  refine q_iload dL_law_1880 rfl ?_
  refine q_iconst (v := 1) dL_law_1882 rfl ?_
  refine q_iaddN (a := i) (b := 1) dL_law_1883 ?_
  refine q_taldIN (by decide) dL_law_1884 (rfl : q_ar g 0 = _) (by omega) hN ?_
  change q_W _ _ _ _ _ _ _ _ _ _ [.int (g.2.2.2.2.2.2 (i + 1)), .ref 215] _
  refine q_invV (mc' := 0) (ms' := 0) (d' := d - 1) (as := [.int ((g.2.2.2.2.2.2 (i + 1)))]) dL_law_1885 kM_X11_isCertain kL_L_282 kI_X11_isCertain kS_X11_isCertain rfl (kC_X11.1) m1.c0 rfl rfl (Nat.le_of_ble_eq_true rfl) (by omega) (by decide) (by omega) (by omega) (r_isCertain (g := g) (d := d - 1) m1 e0 hn e3 hm (g.2.2.2.2.2.2 (i + 1)) p0 (by omega)) (q_kC (fun h3 hB3 => ?_)) q_xC
  obtain ⟨m3, q3⟩ := hB3
  obtain ⟨rs3, ac3, rj3, ro3, bf3, he3, er3, cm3, cn3, m3⟩ := m3
  change q_W _ _ _ _ _ _ _ _ 1888 [.ref 0, .ref 100, .ref 215, .ref 223, .ref 224, .int (nI i), .int ((x_mo_isCertain al ad s.1 (g.2.2.2.2.2.2 (i + 1))).2.1), q_u, q_u] [.int (z_b ((x_mo_isCertain al ad s.1 (g.2.2.2.2.2.2 (i + 1))).1))] h3
  refine q_istore dL_law_1888 (by decide) rfl ?_
  change q_W _ _ _ _ _ _ _ _ 1890 [.ref 0, .ref 100, .ref 215, .ref 223, .ref 224, .int (nI i), .int ((x_mo_isCertain al ad s.1 (g.2.2.2.2.2.2 (i + 1))).2.1), .int (z_b ((x_mo_isCertain al ad s.1 (g.2.2.2.2.2.2 (i + 1))).1)), q_u] [] h3
  refine q_aload_n (by first | assumption | (rw [q_R0e]; omega)) dL_law_1890 rfl ?_
  refine q_invV (mc' := 0) (ms' := 0) (d' := d - 1) (as := []) dL_law_1891 kM_X11_thrown kL_L_166 kI_X11_thrown kS_X11_thrown rfl (kC_X11.1) m3.c0 rfl rfl (Nat.le_of_ble_eq_true rfl) (by omega) (by decide) (by omega) (by omega) (e_mo_thrownR (d := d - 1) m3 (by omega)) (q_kR ?_) q_xR
  change q_W _ _ _ _ _ _ _ _ 1894 [.ref 0, .ref 100, .ref 215, .ref 223, .ref 224, .int (nI i), .int ((x_mo_isCertain al ad s.1 (g.2.2.2.2.2.2 (i + 1))).2.1), .int (z_b ((x_mo_isCertain al ad s.1 (g.2.2.2.2.2.2 (i + 1))).1)), q_u] [.int ((x_mo_isCertain al ad s.1 (g.2.2.2.2.2.2 (i + 1))).2.1)] h3
  refine q_iload dL_law_1894 rfl ?_
  refine q_icmp_eq 1901 dL_law_1896 (by decide) (fun _ => ?_) (fun b => absurd rfl b)
  refine q_iload dL_law_1901 rfl ?_
  have hz3 : h1.1 ≤ h3.1 := q3.1
  have hz4 : h0.1 ≤ h1.1 := qs.1
  have fin : q_W g mL_law d mc ms Q (kc + 1) (ks + 6) 1925 [.ref 0, .ref 100, .ref 215, .ref 223, .ref 224, .int (nI i), .int ((x_mo_isCertain al ad s.1 (g.2.2.2.2.2.2 (i + 1))).2.1), .int (z_b ((x_mo_isCertain al ad s.1 (g.2.2.2.2.2.2 (i + 1))).1)), q_u] [] h3 := by
    refine q_goto 2985 dL_law_1925 (by decide) ?_
    refine q_forget 6 ?_
    refine q_forget 7 ?_
    change q_W _ _ _ _ _ _ _ _ 2985 [.ref 0, .ref 100, .ref 215, .ref 223, .ref 224, .int (nI i), q_u, q_u, q_u] [] h3
    exact q_widen (by omega) (by omega) (K h3 ⟨_, _, _, _, _, _, _, _, _, _, _, _, _, _, _, _, _, _, _, _, _, _, w1.keep (q3.wide (by omega) (by omega)), ⟨_, ⟨_, _, _, _, _, _, _, _, _, m3⟩⟩, ⟨_, (q3.2 _ (by omega) (by omega)).trans c223b⟩, ⟨_, (q3.2 _ (by omega) (by omega)).trans c224b⟩, J2⟩)
  refine q_if_ne 1925 dL_law_1903 (by decide) (fun _ => fin) (fun b => ?_)
  have eo9 : (q_oB ((x_am_isCertain s.1 s.2.1 s.2.2.2.2.2.1 pf cv sc (g.2.2.2.2.2.2 (i + 1))).1)) = .inl (some (.int (z_b ((x_mo_isCertain al ad s.1 (g.2.2.2.2.2.2 (i + 1))).1)))) := by
    rcases ag with ⟨et, eo⟩ | ⟨et, eo⟩
    · exact absurd (et.symm.trans b) (by decide)
    · exact eo
  have ev := hf2 _ eo9
  refine q_aload_n (by first | assumption | (rw [q_R0e]; omega)) dL_law_1906 rfl ?_
  refine q_iconst (v := 0) dL_law_1907 rfl ?_
  refine q_lald (f := f2) dL_law_1908 ((q3.2 _ (by omega) (by omega)).trans c223b) (vp_in_nI (n := 0) (N := 1) (by decide) (by decide)) ?_
  change q_W _ _ _ _ _ _ _ _ _ _ [.long (f2 0)] _
  rw [ev]
  refine q_iload dL_law_1909 rfl ?_
  have hlc : q_W g mL_law d mc ms Q (kc + 1) (ks + 6) 1919 [.ref 0, .ref 100, .ref 215, .ref 223, .ref 224, .int (nI i), .int ((x_mo_isCertain al ad s.1 (g.2.2.2.2.2.2 (i + 1))).2.1), .int (z_b ((x_mo_isCertain al ad s.1 (g.2.2.2.2.2.2 (i + 1))).1)), q_u] [.long (z_b ((x_mo_isCertain al ad s.1 (g.2.2.2.2.2.2 (i + 1))).1)).toInt64, .long (z_b ((x_mo_isCertain al ad s.1 (g.2.2.2.2.2.2 (i + 1))).1)).toInt64] h3 := by
    refine q_lcmp dL_law_1919 ?_
    rw [z_lcmp]
    exact q_if_eq 1925 dL_law_1920 (by decide) (fun _ => fin) (fun b => absurd rfl b)
  revert hlc
  cases (x_mo_isCertain al ad s.1 (g.2.2.2.2.2.2 (i + 1))).1 with
  | false =>
    intro hlc
    refine q_if_eq 1918 dL_law_1911 (by decide) (fun _ => ?_) (fun b => absurd rfl b)
    exact q_lconst (v := 0) dL_law_1918 (by decide) hlc
  | true =>
    intro hlc
    refine q_if_eq 1918 dL_law_1911 (by decide) (fun b => absurd b (by decide)) (fun _ => ?_)
    refine q_lconst (v := 1) dL_law_1914 (by decide) ?_
    exact q_goto 1919 dL_law_1915 (by decide) hlc
set_option maxRecDepth 100000 in
set_option maxHeartbeats 4000000 in
theorem l_c_canStandTogether {g : q_G} {h : q_H} {d mc ms kc ks i t : Nat} {Q : q_O → q_H → Prop} (hP : z_P_canStandTogether) (hI : z_I t h) (ht : t < 512) (hi : i + 2 < g.2.2.2.2.2.1) (hN : g.2.2.2.2.2.1 < 2 ^ 31) (ho : q_isold g 0) (hd : 26 ≤ d) (hkc : kc + 66 ≤ mc) (hks : ks + 10588 ≤ ms) (K : ∀ h2, z_I (t + 1) h2 → q_W g mL_law d mc ms Q (kc + 66) (ks + 10588) 2985 [.ref 0, .ref 100, .ref 215, .ref 223, .ref 224, .int (nI i), q_u, q_u, q_u] [] h2) : q_W g mL_law d mc ms Q kc ks 1928 [.ref 0, .ref 100, .ref 215, .ref 223, .ref 224, .int (nI i), q_u, q_u, q_u] [] h := by
  obtain ⟨hs, se, sf, s, s1, nx, kp, rw, ic, fi, lc, fl, al, cg, sv, ad, ln, lz, ip, ty, ea, fa, wc, ⟨th, wm⟩, ⟨f, c223⟩, ⟨fd, c224⟩, J⟩ := hI
  obtain ⟨s2, ca, cj, co, won, lost, pf, cv, sc, pc, pp, po, vb, oa, ob, w⟩ := wc
  obtain ⟨rs, ac, rj, ro, bf, he, er, cm, cn, m⟩ := wm
  obtain ⟨e0, hn, e3, hm⟩ := J.n0
  obtain ⟨p0, ag, J2⟩ := hP t hs se sf s s1 nx kp rw ic fi lc fl al cg sv ad ln lz ip ty ea fa pf cv sc (g.2.2.2.2.2.2 (i + 1)) (g.2.2.2.2.2.2 (i + 2)) ht J
  refine q_aload_n (by first | assumption | (rw [q_R0e]; omega)) dL_law_1928 rfl ?_
  refine q_aload_nO ho dL_law_1929 rfl ?_
  refine q_iload dL_law_1930 rfl ?_
  refine q_iconst (v := 1) dL_law_1932 rfl ?_
  refine q_iaddN (a := i) (b := 1) dL_law_1933 ?_
  refine q_taldIN (by decide) dL_law_1934 (rfl : q_ar g 0 = _) (by omega) hN ?_
  change q_W _ _ _ _ _ _ _ _ _ _ [.int (g.2.2.2.2.2.2 (i + 1)), .ref 100] _
  refine q_aload_nO ho dL_law_1935 rfl ?_
  refine q_iload dL_law_1936 rfl ?_
  refine q_iconst (v := 2) dL_law_1938 rfl ?_
  refine q_iaddN (a := i) (b := 2) dL_law_1939 ?_
  refine q_taldIN (by decide) dL_law_1940 (rfl : q_ar g 0 = _) (by omega) hN ?_
  change q_W _ _ _ _ _ _ _ _ _ _ [.int (g.2.2.2.2.2.2 (i + 2)), .int ((g.2.2.2.2.2.2 (i + 1))), .ref 100] _
  refine q_aload_n (by first | assumption | (rw [q_R0e]; omega)) dL_law_1941 rfl ?_
  have ho9 : (∃ v, (q_oB ((x_am_canStandTogether s.1 s.2.1 s.2.2.2.2.2.1 pf cv sc (g.2.2.2.2.2.2 (i + 1)) (g.2.2.2.2.2.2 (i + 2))).1)) = .inl (some (.int (z_b v)))) ∨ (q_oB ((x_am_canStandTogether s.1 s.2.1 s.2.2.2.2.2.1 pf cv sc (g.2.2.2.2.2.2 (i + 1)) (g.2.2.2.2.2.2 (i + 2))).1)) = .inr "java/util/NoSuchElementException" := by
    rcases ag with ⟨et, eo⟩ | ⟨et, eo⟩
    · exact Or.inr (eo)
    · exact Or.inl ⟨_, eo⟩
  have hcd : z_cd [("java/util/NoSuchElementException", 1)] (q_oB ((x_am_canStandTogether s.1 s.2.1 s.2.2.2.2.2.1 pf cv sc (g.2.2.2.2.2.2 (i + 1)) (g.2.2.2.2.2.2 (i + 2))).1)) = (x_mo_canStandTogether al ad s.1 (g.2.2.2.2.2.2 (i + 1)) (g.2.2.2.2.2.2 (i + 2))).2.1 := by
    rcases ag with ⟨et, eo⟩ | ⟨et, eo⟩
    · rw [et, eo]; rfl
    · rw [et, eo]; rfl
  have hB9 : ∀ h1, (z_C h1 hs se sf s s1 nx kp rw ic fi lc fl ∧ q_zone h h1 100 115) → h1.2 223 = some (.inl (4, 1, .inr (.inl f))) := fun h1 hb => (hb.2.2 _ (by omega) (by omega)).trans c223
  refine q_invSH (mc' := 2) (ms' := 12) (d' := d - 1) (as := [.ref 100, .int ((g.2.2.2.2.2.2 (i + 1))), .int ((g.2.2.2.2.2.2 (i + 2))), .ref 223]) dL_law_1942 kM_L_canStandTogether kL_L_283 kT_L_canStandTogether rfl rfl rfl (Nat.le_of_ble_eq_true rfl) (by omega) (by decide) (by omega) (by omega) (e_L_canStandTogether (d := d - 1) (dd := d - 2) w.1.c0 hB9 ho9 (c_canStandTogether (g := g) (h := h) (d := d - 2) w (g.2.2.2.2.2.2 (i + 1)) (g.2.2.2.2.2.2 (i + 2)) (by omega)) (by omega)) (q_kC (fun h1 hB => ?_)) q_xC
  obtain ⟨h0, ⟨wc1, q1⟩, e9⟩ := hB
  obtain ⟨f2, c223b, hf2⟩ := z_outL_c (o := q_oB ((x_am_canStandTogether s.1 s.2.1 s.2.2.2.2.2.1 pf cv sc (g.2.2.2.2.2.2 (i + 1)) (g.2.2.2.2.2.2 (i + 2))).1)) (hB9 h0 ⟨wc1, q1⟩)
  have qs : q_same h0 h1 223 1 := e9 ▸ z_outL_same
  rw [← e9] at c223b
  clear e9
  have hz : 225 ≤ h.1 := w.2.2.2.2.2.2.2.2.2.s0
  have hz0 : h.1 ≤ h0.1 := q1.1
  have c224b : h1.2 224 = _ := (qs.2 _ (by omega) (by omega)).trans ((q1.2 _ (by omega) (by omega)).trans c224)
  have w1 := wc1.keep (qs.wide (by omega) (by omega))
  have m1 := m.keepI (h1 := h1) (Nat.le_trans q1.1 qs.1) (fun j b1 b2 => (qs.2 j (by omega) (by omega)).trans (q1.2 j (by omega) (by omega)))
  clear wc1 hB9 ho9 m
  change q_W _ _ _ _ _ _ _ _ 1945 [.ref 0, .ref 100, .ref 215, .ref 223, .ref 224, .int (nI i), q_u, q_u, q_u] [.int (z_cd [("java/util/NoSuchElementException", 1)] (q_oB ((x_am_canStandTogether s.1 s.2.1 s.2.2.2.2.2.1 pf cv sc (g.2.2.2.2.2.2 (i + 1)) (g.2.2.2.2.2.2 (i + 2))).1)))] h1
  rw [hcd]
  refine q_istore dL_law_1945 (by decide) rfl ?_
  change q_W _ _ _ _ _ _ _ _ 1947 [.ref 0, .ref 100, .ref 215, .ref 223, .ref 224, .int (nI i), .int ((x_mo_canStandTogether al ad s.1 (g.2.2.2.2.2.2 (i + 1)) (g.2.2.2.2.2.2 (i + 2))).2.1), q_u, q_u] [] h1
  refine q_aload_n (by first | assumption | (rw [q_R0e]; omega)) dL_law_1947 rfl ?_
  refine q_aload_nO ho dL_law_1948 rfl ?_
  refine q_iload dL_law_1949 rfl ?_
  refine q_iconst (v := 1) dL_law_1951 rfl ?_
  refine q_iaddN (a := i) (b := 1) dL_law_1952 ?_
  refine q_taldIN (by decide) dL_law_1953 (rfl : q_ar g 0 = _) (by omega) hN ?_
  change q_W _ _ _ _ _ _ _ _ _ _ [.int (g.2.2.2.2.2.2 (i + 1)), .ref 215] _
  refine q_aload_nO ho dL_law_1954 rfl ?_
  refine q_iload dL_law_1955 rfl ?_
  refine q_iconst (v := 2) dL_law_1957 rfl ?_
  refine q_iaddN (a := i) (b := 2) dL_law_1958 ?_
  refine q_taldIN (by decide) dL_law_1959 (rfl : q_ar g 0 = _) (by omega) hN ?_
  change q_W _ _ _ _ _ _ _ _ _ _ [.int (g.2.2.2.2.2.2 (i + 2)), .int ((g.2.2.2.2.2.2 (i + 1))), .ref 215] _
  refine q_invV (mc' := 0) (ms' := 0) (d' := d - 1) (as := [.int ((g.2.2.2.2.2.2 (i + 1))), .int ((g.2.2.2.2.2.2 (i + 2)))]) dL_law_1960 kM_X11_canStandTogether kL_L_285 kI_X11_canStandTogether kS_X11_canStandTogether rfl (kC_X11.1) m1.c0 rfl rfl (Nat.le_of_ble_eq_true rfl) (by omega) (by decide) (by omega) (by omega) (r_canStandTogether (g := g) (d := d - 1) m1 e0 hn e3 hm (g.2.2.2.2.2.2 (i + 1)) (g.2.2.2.2.2.2 (i + 2)) p0 (by omega)) (q_kC (fun h3 hB3 => ?_)) q_xC
  obtain ⟨m3, q3⟩ := hB3
  obtain ⟨rs3, ac3, rj3, ro3, bf3, he3, er3, cm3, cn3, m3⟩ := m3
  change q_W _ _ _ _ _ _ _ _ 1963 [.ref 0, .ref 100, .ref 215, .ref 223, .ref 224, .int (nI i), .int ((x_mo_canStandTogether al ad s.1 (g.2.2.2.2.2.2 (i + 1)) (g.2.2.2.2.2.2 (i + 2))).2.1), q_u, q_u] [.int (z_b ((x_mo_canStandTogether al ad s.1 (g.2.2.2.2.2.2 (i + 1)) (g.2.2.2.2.2.2 (i + 2))).1))] h3
  refine q_istore dL_law_1963 (by decide) rfl ?_
  change q_W _ _ _ _ _ _ _ _ 1965 [.ref 0, .ref 100, .ref 215, .ref 223, .ref 224, .int (nI i), .int ((x_mo_canStandTogether al ad s.1 (g.2.2.2.2.2.2 (i + 1)) (g.2.2.2.2.2.2 (i + 2))).2.1), .int (z_b ((x_mo_canStandTogether al ad s.1 (g.2.2.2.2.2.2 (i + 1)) (g.2.2.2.2.2.2 (i + 2))).1)), q_u] [] h3
  refine q_aload_n (by first | assumption | (rw [q_R0e]; omega)) dL_law_1965 rfl ?_
  refine q_invV (mc' := 0) (ms' := 0) (d' := d - 1) (as := []) dL_law_1966 kM_X11_thrown kL_L_166 kI_X11_thrown kS_X11_thrown rfl (kC_X11.1) m3.c0 rfl rfl (Nat.le_of_ble_eq_true rfl) (by omega) (by decide) (by omega) (by omega) (e_mo_thrownR (d := d - 1) m3 (by omega)) (q_kR ?_) q_xR
  change q_W _ _ _ _ _ _ _ _ 1969 [.ref 0, .ref 100, .ref 215, .ref 223, .ref 224, .int (nI i), .int ((x_mo_canStandTogether al ad s.1 (g.2.2.2.2.2.2 (i + 1)) (g.2.2.2.2.2.2 (i + 2))).2.1), .int (z_b ((x_mo_canStandTogether al ad s.1 (g.2.2.2.2.2.2 (i + 1)) (g.2.2.2.2.2.2 (i + 2))).1)), q_u] [.int ((x_mo_canStandTogether al ad s.1 (g.2.2.2.2.2.2 (i + 1)) (g.2.2.2.2.2.2 (i + 2))).2.1)] h3
  refine q_iload dL_law_1969 rfl ?_
  refine q_icmp_eq 1976 dL_law_1971 (by decide) (fun _ => ?_) (fun b => absurd rfl b)
  refine q_iload dL_law_1976 rfl ?_
  have hz3 : h1.1 ≤ h3.1 := q3.1
  have hz4 : h0.1 ≤ h1.1 := qs.1
  have fin : q_W g mL_law d mc ms Q (kc + 2) (ks + 12) 2000 [.ref 0, .ref 100, .ref 215, .ref 223, .ref 224, .int (nI i), .int ((x_mo_canStandTogether al ad s.1 (g.2.2.2.2.2.2 (i + 1)) (g.2.2.2.2.2.2 (i + 2))).2.1), .int (z_b ((x_mo_canStandTogether al ad s.1 (g.2.2.2.2.2.2 (i + 1)) (g.2.2.2.2.2.2 (i + 2))).1)), q_u] [] h3 := by
    refine q_goto 2985 dL_law_2000 (by decide) ?_
    refine q_forget 6 ?_
    refine q_forget 7 ?_
    change q_W _ _ _ _ _ _ _ _ 2985 [.ref 0, .ref 100, .ref 215, .ref 223, .ref 224, .int (nI i), q_u, q_u, q_u] [] h3
    exact q_widen (by omega) (by omega) (K h3 ⟨_, _, _, _, _, _, _, _, _, _, _, _, _, _, _, _, _, _, _, _, _, _, w1.keep (q3.wide (by omega) (by omega)), ⟨_, ⟨_, _, _, _, _, _, _, _, _, m3⟩⟩, ⟨_, (q3.2 _ (by omega) (by omega)).trans c223b⟩, ⟨_, (q3.2 _ (by omega) (by omega)).trans c224b⟩, J2⟩)
  refine q_if_ne 2000 dL_law_1978 (by decide) (fun _ => fin) (fun b => ?_)
  have eo9 : (q_oB ((x_am_canStandTogether s.1 s.2.1 s.2.2.2.2.2.1 pf cv sc (g.2.2.2.2.2.2 (i + 1)) (g.2.2.2.2.2.2 (i + 2))).1)) = .inl (some (.int (z_b ((x_mo_canStandTogether al ad s.1 (g.2.2.2.2.2.2 (i + 1)) (g.2.2.2.2.2.2 (i + 2))).1)))) := by
    rcases ag with ⟨et, eo⟩ | ⟨et, eo⟩
    · exact absurd (et.symm.trans b) (by decide)
    · exact eo
  have ev := hf2 _ eo9
  refine q_aload_n (by first | assumption | (rw [q_R0e]; omega)) dL_law_1981 rfl ?_
  refine q_iconst (v := 0) dL_law_1982 rfl ?_
  refine q_lald (f := f2) dL_law_1983 ((q3.2 _ (by omega) (by omega)).trans c223b) (vp_in_nI (n := 0) (N := 1) (by decide) (by decide)) ?_
  change q_W _ _ _ _ _ _ _ _ _ _ [.long (f2 0)] _
  rw [ev]
  refine q_iload dL_law_1984 rfl ?_
  have hlc : q_W g mL_law d mc ms Q (kc + 2) (ks + 12) 1994 [.ref 0, .ref 100, .ref 215, .ref 223, .ref 224, .int (nI i), .int ((x_mo_canStandTogether al ad s.1 (g.2.2.2.2.2.2 (i + 1)) (g.2.2.2.2.2.2 (i + 2))).2.1), .int (z_b ((x_mo_canStandTogether al ad s.1 (g.2.2.2.2.2.2 (i + 1)) (g.2.2.2.2.2.2 (i + 2))).1)), q_u] [.long (z_b ((x_mo_canStandTogether al ad s.1 (g.2.2.2.2.2.2 (i + 1)) (g.2.2.2.2.2.2 (i + 2))).1)).toInt64, .long (z_b ((x_mo_canStandTogether al ad s.1 (g.2.2.2.2.2.2 (i + 1)) (g.2.2.2.2.2.2 (i + 2))).1)).toInt64] h3 := by
    refine q_lcmp dL_law_1994 ?_
    rw [z_lcmp]
    exact q_if_eq 2000 dL_law_1995 (by decide) (fun _ => fin) (fun b => absurd rfl b)
  revert hlc
  cases (x_mo_canStandTogether al ad s.1 (g.2.2.2.2.2.2 (i + 1)) (g.2.2.2.2.2.2 (i + 2))).1 with
  | false =>
    intro hlc
    refine q_if_eq 1993 dL_law_1986 (by decide) (fun _ => ?_) (fun b => absurd rfl b)
    exact q_lconst (v := 0) dL_law_1993 (by decide) hlc
  | true =>
    intro hlc
    refine q_if_eq 1993 dL_law_1986 (by decide) (fun b => absurd b (by decide)) (fun _ => ?_)
    refine q_lconst (v := 1) dL_law_1989 (by decide) ?_
    exact q_goto 1994 dL_law_1990 (by decide) hlc
set_option maxRecDepth 100000 in
set_option maxHeartbeats 4000000 in
theorem l_c_hasCycle {g : q_G} {h : q_H} {d mc ms kc ks i t : Nat} {Q : q_O → q_H → Prop} (hP : z_P_hasCycle) (hI : z_I t h) (ht : t < 512) (hi : i + 2 < g.2.2.2.2.2.1) (hN : g.2.2.2.2.2.1 < 2 ^ 31) (ho : q_isold g 0) (hd : 26 ≤ d) (hkc : kc + 66 ≤ mc) (hks : ks + 10588 ≤ ms) (K : ∀ h2, z_I (t + 1) h2 → q_W g mL_law d mc ms Q (kc + 66) (ks + 10588) 2985 [.ref 0, .ref 100, .ref 215, .ref 223, .ref 224, .int (nI i), q_u, q_u, q_u] [] h2) : q_W g mL_law d mc ms Q kc ks 2003 [.ref 0, .ref 100, .ref 215, .ref 223, .ref 224, .int (nI i), q_u, q_u, q_u] [] h := by
  obtain ⟨hs, se, sf, s, s1, nx, kp, rw, ic, fi, lc, fl, al, cg, sv, ad, ln, lz, ip, ty, ea, fa, wc, ⟨th, wm⟩, ⟨f, c223⟩, ⟨fd, c224⟩, J⟩ := hI
  obtain ⟨s2, ca, cj, co, won, lost, pf, cv, sc, pc, pp, po, vb, oa, ob, w⟩ := wc
  obtain ⟨rs, ac, rj, ro, bf, he, er, cm, cn, m⟩ := wm
  obtain ⟨e0, hn, e3, hm⟩ := J.n0
  obtain ⟨ag, J2⟩ := hP t hs se sf s s1 nx kp rw ic fi lc fl al cg sv ad ln lz ip ty ea fa   ht J
  refine q_aload_n (by first | assumption | (rw [q_R0e]; omega)) dL_law_2003 rfl ?_
  refine q_invV (mc' := 0) (ms' := 0) (d' := d - 1) (as := []) dL_law_2004 kM_X10_hasCycle kL_L_286 kI_X10_hasCycle kS_X10_hasCycle rfl (kC_X10.1) w.1.c0 rfl rfl (Nat.le_of_ble_eq_true rfl) (by omega) (by decide) (by omega) (by omega) (c_hasCycle (g := g) (h := h) (d := d - 1) w (by omega)) (q_kC (fun h1 hB => ?_)) q_xC
  obtain ⟨w1, q1⟩ := hB
  have hz : 225 ≤ h.1 := w.2.2.2.2.2.2.2.2.2.s0
  have hz0 : h.1 ≤ h1.1 := q1.1
  have m1 := m.keepI (h1 := h1) q1.1 (fun j b1 b2 => q1.2 j (by omega) (by omega))
  have c223b := (q1.2 _ (by omega) (by omega)).trans c223
  have c224b := (q1.2 _ (by omega) (by omega)).trans c224
  change q_W _ _ _ _ _ _ _ _ 2007 [.ref 0, .ref 100, .ref 215, .ref 223, .ref 224, .int (nI i), q_u, q_u, q_u] [.int (z_b ((x_am_hasCycle s.1 s.2.2.2.2.2.1)))] h1
  rw [ag]
  refine q_aload_n (by first | assumption | (rw [q_R0e]; omega)) dL_law_2007 rfl ?_
  refine q_invV (mc' := 0) (ms' := 0) (d' := d - 1) (as := []) dL_law_2008 kM_X11_hasCycle kL_L_290 kI_X11_hasCycle kS_X11_hasCycle rfl (kC_X11.1) m1.c0 rfl rfl (Nat.le_of_ble_eq_true rfl) (by omega) (by decide) (by omega) (by omega) (r_hasCycle (g := g) (d := d - 1) m1 e0 hn e3 hm (by omega)) (q_kC (fun h3 hB3 => ?_)) q_xC
  obtain ⟨m3, q3⟩ := hB3
  change q_W _ _ _ _ _ _ _ _ 2011 [.ref 0, .ref 100, .ref 215, .ref 223, .ref 224, .int (nI i), q_u, q_u, q_u] [.int (z_b ((x_mo_hasCycle al s.1).1)), .int (z_b ((x_mo_hasCycle al s.1).1))] h3
  refine q_icmp_eq 2985 dL_law_2011 (by decide) (fun _ => ?_) (fun b => absurd rfl b)
  exact q_widen (by omega) (by omega) (K h3 ⟨_, _, _, _, _, _, _, _, _, _, _, _, _, _, _, _, _, _, _, _, _, _, w1.keep (q3.wide (by omega) (by omega)), ⟨_, m3⟩, ⟨_, (q3.2 _ (by omega) (by omega)).trans c223b⟩, ⟨_, (q3.2 _ (by omega) (by omega)).trans c224b⟩, J2⟩)
set_option maxRecDepth 100000 in
set_option maxHeartbeats 4000000 in
theorem l_c_hasCycleBySearch {g : q_G} {h : q_H} {d mc ms kc ks i t : Nat} {Q : q_O → q_H → Prop} (hP : z_P_hasCycleBySearch) (hI : z_I t h) (ht : t < 512) (hi : i + 2 < g.2.2.2.2.2.1) (hN : g.2.2.2.2.2.1 < 2 ^ 31) (ho : q_isold g 0) (hd : 26 ≤ d) (hkc : kc + 66 ≤ mc) (hks : ks + 10588 ≤ ms) (K : ∀ h2, z_I (t + 1) h2 → q_W g mL_law d mc ms Q (kc + 66) (ks + 10588) 2985 [.ref 0, .ref 100, .ref 215, .ref 223, .ref 224, .int (nI i), q_u, q_u, q_u] [] h2) : q_W g mL_law d mc ms Q kc ks 2016 [.ref 0, .ref 100, .ref 215, .ref 223, .ref 224, .int (nI i), q_u, q_u, q_u] [] h := by
  obtain ⟨hs, se, sf, s, s1, nx, kp, rw, ic, fi, lc, fl, al, cg, sv, ad, ln, lz, ip, ty, ea, fa, wc, ⟨th, wm⟩, ⟨f, c223⟩, ⟨fd, c224⟩, J⟩ := hI
  obtain ⟨s2, ca, cj, co, won, lost, pf, cv, sc, pc, pp, po, vb, oa, ob, w⟩ := wc
  obtain ⟨rs, ac, rj, ro, bf, he, er, cm, cn, m⟩ := wm
  obtain ⟨e0, hn, e3, hm⟩ := J.n0
  obtain ⟨ag, J2⟩ := hP t hs se sf s s1 nx kp rw ic fi lc fl al cg sv ad ln lz ip ty ea fa   ht J
  refine q_aload_n (by first | assumption | (rw [q_R0e]; omega)) dL_law_2016 rfl ?_
  refine q_invV (mc' := 0) (ms' := 0) (d' := d - 1) (as := []) dL_law_2017 kM_X10_hasCycleBySearch kL_L_291 kI_X10_hasCycleBySearch kS_X10_hasCycleBySearch rfl (kC_X10.1) w.1.c0 rfl rfl (Nat.le_of_ble_eq_true rfl) (by omega) (by decide) (by omega) (by omega) (c_hasCycleBySearch (g := g) (h := h) (d := d - 1) w (by omega)) (q_kC (fun h1 hB => ?_)) q_xC
  obtain ⟨w1, q1⟩ := hB
  have hz : 225 ≤ h.1 := w.2.2.2.2.2.2.2.2.2.s0
  have hz0 : h.1 ≤ h1.1 := q1.1
  have m1 := m.keepI (h1 := h1) q1.1 (fun j b1 b2 => q1.2 j (by omega) (by omega))
  have c223b := (q1.2 _ (by omega) (by omega)).trans c223
  have c224b := (q1.2 _ (by omega) (by omega)).trans c224
  change q_W _ _ _ _ _ _ _ _ 2020 [.ref 0, .ref 100, .ref 215, .ref 223, .ref 224, .int (nI i), q_u, q_u, q_u] [.int (z_b ((x_am_hasCycleBySearch s.1 s.2.2.2.2.2.1)))] h1
  rw [ag]
  refine q_aload_n (by first | assumption | (rw [q_R0e]; omega)) dL_law_2020 rfl ?_
  refine q_invV (mc' := 0) (ms' := 0) (d' := d - 1) (as := []) dL_law_2021 kM_X11_hasCycleBySearch kL_L_294 kI_X11_hasCycleBySearch kS_X11_hasCycleBySearch rfl (kC_X11.1) m1.c0 rfl rfl (Nat.le_of_ble_eq_true rfl) (by omega) (by decide) (by omega) (by omega) (r_hasCycleBySearch (g := g) (d := d - 1) m1 e0 hn e3 hm (by omega)) (q_kC (fun h3 hB3 => ?_)) q_xC
  obtain ⟨m3, q3⟩ := hB3
  change q_W _ _ _ _ _ _ _ _ 2024 [.ref 0, .ref 100, .ref 215, .ref 223, .ref 224, .int (nI i), q_u, q_u, q_u] [.int (z_b ((x_mo_hasCycleBySearch al s.1).1)), .int (z_b ((x_mo_hasCycleBySearch al s.1).1))] h3
  refine q_icmp_eq 2985 dL_law_2024 (by decide) (fun _ => ?_) (fun b => absurd rfl b)
  exact q_widen (by omega) (by omega) (K h3 ⟨_, _, _, _, _, _, _, _, _, _, _, _, _, _, _, _, _, _, _, _, _, _, w1.keep (q3.wide (by omega) (by omega)), ⟨_, m3⟩, ⟨_, (q3.2 _ (by omega) (by omega)).trans c223b⟩, ⟨_, (q3.2 _ (by omega) (by omega)).trans c224b⟩, J2⟩)
set_option maxRecDepth 100000 in
set_option maxHeartbeats 4000000 in
theorem l_c_daysUntilChange {g : q_G} {h : q_H} {d mc ms kc ks i t : Nat} {Q : q_O → q_H → Prop} (hP : z_P_daysUntilChange) (hI : z_I t h) (ht : t < 512) (hi : i + 2 < g.2.2.2.2.2.1) (hN : g.2.2.2.2.2.1 < 2 ^ 31) (ho : q_isold g 0) (hd : 26 ≤ d) (hkc : kc + 66 ≤ mc) (hks : ks + 10588 ≤ ms) (K : ∀ h2, z_I (t + 1) h2 → q_W g mL_law d mc ms Q (kc + 66) (ks + 10588) 2985 [.ref 0, .ref 100, .ref 215, .ref 223, .ref 224, .int (nI i), q_u, q_u, q_u] [] h2) : q_W g mL_law d mc ms Q kc ks 2029 [.ref 0, .ref 100, .ref 215, .ref 223, .ref 224, .int (nI i), q_u, q_u, q_u] [] h := by
  obtain ⟨hs, se, sf, s, s1, nx, kp, rw, ic, fi, lc, fl, al, cg, sv, ad, ln, lz, ip, ty, ea, fa, wc, ⟨th, wm⟩, ⟨f, c223⟩, ⟨fd, c224⟩, J⟩ := hI
  obtain ⟨s2, ca, cj, co, won, lost, pf, cv, sc, pc, pp, po, vb, oa, ob, w⟩ := wc
  obtain ⟨rs, ac, rj, ro, bf, he, er, cm, cn, m⟩ := wm
  obtain ⟨e0, hn, e3, hm⟩ := J.n0
  obtain ⟨ag, J2⟩ := hP t hs se sf s s1 nx kp rw ic fi lc fl al cg sv ad ln lz ip ty ea fa s2 co ro  ht J
  refine q_aload_n (by first | assumption | (rw [q_R0e]; omega)) dL_law_2029 rfl ?_
  refine q_aload_n (by first | assumption | (rw [q_R0e]; omega)) dL_law_2030 rfl ?_
  have ho9 : (∃ v, (q_oI ((x_am_daysUntilChange s.1 s.2.1 s.2.2.1 s.2.2.2.1 s.2.2.2.2.1 s.2.2.2.2.2.1 s.2.2.2.2.2.2.1 s.2.2.2.2.2.2.2.1 s.2.2.2.2.2.2.2.2.1 s.2.2.2.2.2.2.2.2.2.1 s.2.2.2.2.2.2.2.2.2.2.1 s.2.2.2.2.2.2.2.2.2.2.2.1 s.2.2.2.2.2.2.2.2.2.2.2.2 s2.2.1 s2.2.2.1 s2.2.2.2.1 s2.2.2.2.2.1 s2.2.2.2.2.2.1 s2.2.2.2.2.2.2.2.2.2.1 co).1)) = .inl (some (.int v))) ∨ (q_oI ((x_am_daysUntilChange s.1 s.2.1 s.2.2.1 s.2.2.2.1 s.2.2.2.2.1 s.2.2.2.2.2.1 s.2.2.2.2.2.2.1 s.2.2.2.2.2.2.2.1 s.2.2.2.2.2.2.2.2.1 s.2.2.2.2.2.2.2.2.2.1 s.2.2.2.2.2.2.2.2.2.2.1 s.2.2.2.2.2.2.2.2.2.2.2.1 s.2.2.2.2.2.2.2.2.2.2.2.2 s2.2.1 s2.2.2.1 s2.2.2.2.1 s2.2.2.2.2.1 s2.2.2.2.2.2.1 s2.2.2.2.2.2.2.2.2.2.1 co).1)) = .inr "java/util/NoSuchElementException" := by
    rcases ag with ⟨et, eo⟩ | ⟨et, eo⟩
    · exact Or.inr (eo)
    · exact Or.inl ⟨_, eo⟩
  have hcd : z_cd [("java/util/NoSuchElementException", 1)] (q_oI ((x_am_daysUntilChange s.1 s.2.1 s.2.2.1 s.2.2.2.1 s.2.2.2.2.1 s.2.2.2.2.2.1 s.2.2.2.2.2.2.1 s.2.2.2.2.2.2.2.1 s.2.2.2.2.2.2.2.2.1 s.2.2.2.2.2.2.2.2.2.1 s.2.2.2.2.2.2.2.2.2.2.1 s.2.2.2.2.2.2.2.2.2.2.2.1 s.2.2.2.2.2.2.2.2.2.2.2.2 s2.2.1 s2.2.2.1 s2.2.2.2.1 s2.2.2.2.2.1 s2.2.2.2.2.2.1 s2.2.2.2.2.2.2.2.2.2.1 co).1)) = (x_mo_daysUntilChange al ro s.1).2.1 := by
    rcases ag with ⟨et, eo⟩ | ⟨et, eo⟩
    · rw [et, eo]; rfl
    · rw [et, eo]; rfl
  have hB9 : ∀ h1, (z_C h1 hs se sf s s1 nx kp rw ic fi lc fl ∧ q_zone h h1 100 115) → h1.2 223 = some (.inl (4, 1, .inr (.inl f))) := fun h1 hb => (hb.2.2 _ (by omega) (by omega)).trans c223
  refine q_invSH (mc' := 1) (ms' := 6) (d' := d - 1) (as := [.ref 100, .ref 223]) dL_law_2031 kM_L_daysUntilChange kL_L_295 kT_L_daysUntilChange rfl rfl rfl (Nat.le_of_ble_eq_true rfl) (by omega) (by decide) (by omega) (by omega) (e_L_daysUntilChange (d := d - 1) (dd := d - 2) w.1.c0 hB9 ho9 (c_daysUntilChange (g := g) (h := h) (d := d - 2) w (by omega)) (by omega)) (q_kC (fun h1 hB => ?_)) q_xC
  obtain ⟨h0, ⟨wc1, q1⟩, e9⟩ := hB
  obtain ⟨f2, c223b, hf2⟩ := z_outL_c (o := q_oI ((x_am_daysUntilChange s.1 s.2.1 s.2.2.1 s.2.2.2.1 s.2.2.2.2.1 s.2.2.2.2.2.1 s.2.2.2.2.2.2.1 s.2.2.2.2.2.2.2.1 s.2.2.2.2.2.2.2.2.1 s.2.2.2.2.2.2.2.2.2.1 s.2.2.2.2.2.2.2.2.2.2.1 s.2.2.2.2.2.2.2.2.2.2.2.1 s.2.2.2.2.2.2.2.2.2.2.2.2 s2.2.1 s2.2.2.1 s2.2.2.2.1 s2.2.2.2.2.1 s2.2.2.2.2.2.1 s2.2.2.2.2.2.2.2.2.2.1 co).1)) (hB9 h0 ⟨wc1, q1⟩)
  have qs : q_same h0 h1 223 1 := e9 ▸ z_outL_same
  rw [← e9] at c223b
  clear e9
  have hz : 225 ≤ h.1 := w.2.2.2.2.2.2.2.2.2.s0
  have hz0 : h.1 ≤ h0.1 := q1.1
  have c224b : h1.2 224 = _ := (qs.2 _ (by omega) (by omega)).trans ((q1.2 _ (by omega) (by omega)).trans c224)
  have w1 := wc1.keep (qs.wide (by omega) (by omega))
  have m1 := m.keepI (h1 := h1) (Nat.le_trans q1.1 qs.1) (fun j b1 b2 => (qs.2 j (by omega) (by omega)).trans (q1.2 j (by omega) (by omega)))
  clear wc1 hB9 ho9 m
  change q_W _ _ _ _ _ _ _ _ 2034 [.ref 0, .ref 100, .ref 215, .ref 223, .ref 224, .int (nI i), q_u, q_u, q_u] [.int (z_cd [("java/util/NoSuchElementException", 1)] (q_oI ((x_am_daysUntilChange s.1 s.2.1 s.2.2.1 s.2.2.2.1 s.2.2.2.2.1 s.2.2.2.2.2.1 s.2.2.2.2.2.2.1 s.2.2.2.2.2.2.2.1 s.2.2.2.2.2.2.2.2.1 s.2.2.2.2.2.2.2.2.2.1 s.2.2.2.2.2.2.2.2.2.2.1 s.2.2.2.2.2.2.2.2.2.2.2.1 s.2.2.2.2.2.2.2.2.2.2.2.2 s2.2.1 s2.2.2.1 s2.2.2.2.1 s2.2.2.2.2.1 s2.2.2.2.2.2.1 s2.2.2.2.2.2.2.2.2.2.1 co).1)))] h1
  rw [hcd]
  refine q_istore dL_law_2034 (by decide) rfl ?_
  change q_W _ _ _ _ _ _ _ _ 2036 [.ref 0, .ref 100, .ref 215, .ref 223, .ref 224, .int (nI i), .int ((x_mo_daysUntilChange al ro s.1).2.1), q_u, q_u] [] h1
  refine q_aload_n (by first | assumption | (rw [q_R0e]; omega)) dL_law_2036 rfl ?_
  refine q_invV (mc' := 0) (ms' := 0) (d' := d - 1) (as := []) dL_law_2037 kM_X11_daysUntilChange kL_L_297 kI_X11_daysUntilChange kS_X11_daysUntilChange rfl (kC_X11.1) m1.c0 rfl rfl (Nat.le_of_ble_eq_true rfl) (by omega) (by decide) (by omega) (by omega) (r_daysUntilChange (g := g) (d := d - 1) m1 e0 hn e3 hm (by omega)) (q_kC (fun h3 hB3 => ?_)) q_xC
  obtain ⟨m3, q3⟩ := hB3
  obtain ⟨rs3, ac3, rj3, ro3, bf3, he3, er3, cm3, cn3, m3⟩ := m3
  change q_W _ _ _ _ _ _ _ _ 2040 [.ref 0, .ref 100, .ref 215, .ref 223, .ref 224, .int (nI i), .int ((x_mo_daysUntilChange al ro s.1).2.1), q_u, q_u] [.int ((x_mo_daysUntilChange al ro s.1).1)] h3
  refine q_istore dL_law_2040 (by decide) rfl ?_
  change q_W _ _ _ _ _ _ _ _ 2042 [.ref 0, .ref 100, .ref 215, .ref 223, .ref 224, .int (nI i), .int ((x_mo_daysUntilChange al ro s.1).2.1), .int ((x_mo_daysUntilChange al ro s.1).1), q_u] [] h3
  refine q_aload_n (by first | assumption | (rw [q_R0e]; omega)) dL_law_2042 rfl ?_
  refine q_invV (mc' := 0) (ms' := 0) (d' := d - 1) (as := []) dL_law_2043 kM_X11_thrown kL_L_166 kI_X11_thrown kS_X11_thrown rfl (kC_X11.1) m3.c0 rfl rfl (Nat.le_of_ble_eq_true rfl) (by omega) (by decide) (by omega) (by omega) (e_mo_thrownR (d := d - 1) m3 (by omega)) (q_kR ?_) q_xR
  change q_W _ _ _ _ _ _ _ _ 2046 [.ref 0, .ref 100, .ref 215, .ref 223, .ref 224, .int (nI i), .int ((x_mo_daysUntilChange al ro s.1).2.1), .int ((x_mo_daysUntilChange al ro s.1).1), q_u] [.int ((x_mo_daysUntilChange al ro s.1).2.1)] h3
  refine q_iload dL_law_2046 rfl ?_
  refine q_icmp_eq 2053 dL_law_2048 (by decide) (fun _ => ?_) (fun b => absurd rfl b)
  refine q_iload dL_law_2053 rfl ?_
  have hz3 : h1.1 ≤ h3.1 := q3.1
  have hz4 : h0.1 ≤ h1.1 := qs.1
  have fin : q_W g mL_law d mc ms Q (kc + 1) (ks + 6) 2070 [.ref 0, .ref 100, .ref 215, .ref 223, .ref 224, .int (nI i), .int ((x_mo_daysUntilChange al ro s.1).2.1), .int ((x_mo_daysUntilChange al ro s.1).1), q_u] [] h3 := by
    refine q_goto 2985 dL_law_2070 (by decide) ?_
    refine q_forget 6 ?_
    refine q_forget 7 ?_
    change q_W _ _ _ _ _ _ _ _ 2985 [.ref 0, .ref 100, .ref 215, .ref 223, .ref 224, .int (nI i), q_u, q_u, q_u] [] h3
    exact q_widen (by omega) (by omega) (K h3 ⟨_, _, _, _, _, _, _, _, _, _, _, _, _, _, _, _, _, _, _, _, _, _, w1.keep (q3.wide (by omega) (by omega)), ⟨_, ⟨_, _, _, _, _, _, _, _, _, m3⟩⟩, ⟨_, (q3.2 _ (by omega) (by omega)).trans c223b⟩, ⟨_, (q3.2 _ (by omega) (by omega)).trans c224b⟩, J2⟩)
  refine q_if_ne 2070 dL_law_2055 (by decide) (fun _ => fin) (fun b => ?_)
  have eo9 : (q_oI ((x_am_daysUntilChange s.1 s.2.1 s.2.2.1 s.2.2.2.1 s.2.2.2.2.1 s.2.2.2.2.2.1 s.2.2.2.2.2.2.1 s.2.2.2.2.2.2.2.1 s.2.2.2.2.2.2.2.2.1 s.2.2.2.2.2.2.2.2.2.1 s.2.2.2.2.2.2.2.2.2.2.1 s.2.2.2.2.2.2.2.2.2.2.2.1 s.2.2.2.2.2.2.2.2.2.2.2.2 s2.2.1 s2.2.2.1 s2.2.2.2.1 s2.2.2.2.2.1 s2.2.2.2.2.2.1 s2.2.2.2.2.2.2.2.2.2.1 co).1)) = .inl (some (.int ((x_mo_daysUntilChange al ro s.1).1))) := by
    rcases ag with ⟨et, eo⟩ | ⟨et, eo⟩
    · exact absurd (et.symm.trans b) (by decide)
    · exact eo
  have ev := hf2 _ eo9
  refine q_aload_n (by first | assumption | (rw [q_R0e]; omega)) dL_law_2058 rfl ?_
  refine q_iconst (v := 0) dL_law_2059 rfl ?_
  refine q_lald (f := f2) dL_law_2060 ((q3.2 _ (by omega) (by omega)).trans c223b) (vp_in_nI (n := 0) (N := 1) (by decide) (by decide)) ?_
  change q_W _ _ _ _ _ _ _ _ _ _ [.long (f2 0)] _
  rw [ev]
  refine q_iload dL_law_2061 rfl ?_
  refine q_i2l dL_law_2063 rfl ?_
  refine q_lcmp dL_law_2064 ?_
  rw [z_lcmp]
  exact q_if_eq 2070 dL_law_2065 (by decide) (fun _ => fin) (fun b => absurd rfl b)
set_option maxRecDepth 100000 in
set_option maxHeartbeats 4000000 in
theorem l_c_statusAfter {g : q_G} {h : q_H} {d mc ms kc ks i t : Nat} {Q : q_O → q_H → Prop} (hP : z_P_statusAfter) (hI : z_I t h) (ht : t < 512) (hi : i + 2 < g.2.2.2.2.2.1) (hN : g.2.2.2.2.2.1 < 2 ^ 31) (ho : q_isold g 0) (hd : 26 ≤ d) (hkc : kc + 66 ≤ mc) (hks : ks + 10588 ≤ ms) (K : ∀ h2, z_I (t + 1) h2 → q_W g mL_law d mc ms Q (kc + 66) (ks + 10588) 2985 [.ref 0, .ref 100, .ref 215, .ref 223, .ref 224, .int (nI i), q_u, q_u, q_u] [] h2) : q_W g mL_law d mc ms Q kc ks 2073 [.ref 0, .ref 100, .ref 215, .ref 223, .ref 224, .int (nI i), q_u, q_u, q_u] [] h := by
  obtain ⟨hs, se, sf, s, s1, nx, kp, rw, ic, fi, lc, fl, al, cg, sv, ad, ln, lz, ip, ty, ea, fa, wc, ⟨th, wm⟩, ⟨f, c223⟩, ⟨fd, c224⟩, J⟩ := hI
  obtain ⟨s2, ca, cj, co, won, lost, pf, cv, sc, pc, pp, po, vb, oa, ob, w⟩ := wc
  obtain ⟨rs, ac, rj, ro, bf, he, er, cm, cn, m⟩ := wm
  obtain ⟨e0, hn, e3, hm⟩ := J.n0
  obtain ⟨ag, J2⟩ := hP t hs se sf s s1 nx kp rw ic fi lc fl al cg sv ad ln lz ip ty ea fa s2 ca cj co ac rj ro (g.2.2.2.2.2.2 (i + 1)) (g.2.2.2.2.2.2 (i + 2)) ht J
  refine q_aload_n (by first | assumption | (rw [q_R0e]; omega)) dL_law_2073 rfl ?_
  refine q_aload_nO ho dL_law_2074 rfl ?_
  refine q_iload dL_law_2075 rfl ?_
  refine q_iconst (v := 1) dL_law_2077 rfl ?_
  refine q_iaddN (a := i) (b := 1) dL_law_2078 ?_
  refine q_taldIN (by decide) dL_law_2079 (rfl : q_ar g 0 = _) (by omega) hN ?_
  change q_W _ _ _ _ _ _ _ _ _ _ [.int (g.2.2.2.2.2.2 (i + 1)), .ref 100] _
  refine q_aload_nO ho dL_law_2080 rfl ?_
  refine q_iload dL_law_2081 rfl ?_
  refine q_iconst (v := 2) dL_law_2083 rfl ?_
  refine q_iaddN (a := i) (b := 2) dL_law_2084 ?_
  refine q_taldIN (by decide) dL_law_2085 (rfl : q_ar g 0 = _) (by omega) hN ?_
  change q_W _ _ _ _ _ _ _ _ _ _ [.int (g.2.2.2.2.2.2 (i + 2)), .int ((g.2.2.2.2.2.2 (i + 1))), .ref 100] _
  refine q_aload_n (by first | assumption | (rw [q_R0e]; omega)) dL_law_2086 rfl ?_
  have ho9 : (∃ v, (q_oI ((x_am_statusAfter s.1 s.2.1 s.2.2.1 s.2.2.2.1 s.2.2.2.2.1 s.2.2.2.2.2.1 s.2.2.2.2.2.2.1 s.2.2.2.2.2.2.2.1 s.2.2.2.2.2.2.2.2.1 s.2.2.2.2.2.2.2.2.2.1 s.2.2.2.2.2.2.2.2.2.2.1 s.2.2.2.2.2.2.2.2.2.2.2.1 s.2.2.2.2.2.2.2.2.2.2.2.2 s2.1 s2.2.1 s2.2.2.1 s2.2.2.2.1 s2.2.2.2.2.1 s2.2.2.2.2.2.1 s2.2.2.2.2.2.2.1 s2.2.2.2.2.2.2.2.1 s2.2.2.2.2.2.2.2.2.1 s2.2.2.2.2.2.2.2.2.2.1 s2.2.2.2.2.2.2.2.2.2.2.1 s2.2.2.2.2.2.2.2.2.2.2.2.1 s2.2.2.2.2.2.2.2.2.2.2.2.2 ca cj co (g.2.2.2.2.2.2 (i + 1)) (g.2.2.2.2.2.2 (i + 2))).1)) = .inl (some (.int v))) ∨ (q_oI ((x_am_statusAfter s.1 s.2.1 s.2.2.1 s.2.2.2.1 s.2.2.2.2.1 s.2.2.2.2.2.1 s.2.2.2.2.2.2.1 s.2.2.2.2.2.2.2.1 s.2.2.2.2.2.2.2.2.1 s.2.2.2.2.2.2.2.2.2.1 s.2.2.2.2.2.2.2.2.2.2.1 s.2.2.2.2.2.2.2.2.2.2.2.1 s.2.2.2.2.2.2.2.2.2.2.2.2 s2.1 s2.2.1 s2.2.2.1 s2.2.2.2.1 s2.2.2.2.2.1 s2.2.2.2.2.2.1 s2.2.2.2.2.2.2.1 s2.2.2.2.2.2.2.2.1 s2.2.2.2.2.2.2.2.2.1 s2.2.2.2.2.2.2.2.2.2.1 s2.2.2.2.2.2.2.2.2.2.2.1 s2.2.2.2.2.2.2.2.2.2.2.2.1 s2.2.2.2.2.2.2.2.2.2.2.2.2 ca cj co (g.2.2.2.2.2.2 (i + 1)) (g.2.2.2.2.2.2 (i + 2))).1)) = .inr "java/util/NoSuchElementException" ∨ (q_oI ((x_am_statusAfter s.1 s.2.1 s.2.2.1 s.2.2.2.1 s.2.2.2.2.1 s.2.2.2.2.2.1 s.2.2.2.2.2.2.1 s.2.2.2.2.2.2.2.1 s.2.2.2.2.2.2.2.2.1 s.2.2.2.2.2.2.2.2.2.1 s.2.2.2.2.2.2.2.2.2.2.1 s.2.2.2.2.2.2.2.2.2.2.2.1 s.2.2.2.2.2.2.2.2.2.2.2.2 s2.1 s2.2.1 s2.2.2.1 s2.2.2.2.1 s2.2.2.2.2.1 s2.2.2.2.2.2.1 s2.2.2.2.2.2.2.1 s2.2.2.2.2.2.2.2.1 s2.2.2.2.2.2.2.2.2.1 s2.2.2.2.2.2.2.2.2.2.1 s2.2.2.2.2.2.2.2.2.2.2.1 s2.2.2.2.2.2.2.2.2.2.2.2.1 s2.2.2.2.2.2.2.2.2.2.2.2.2 ca cj co (g.2.2.2.2.2.2 (i + 1)) (g.2.2.2.2.2.2 (i + 2))).1)) = .inr "java/lang/IllegalArgumentException" := by
    rcases ag with ⟨et, eo⟩ | ⟨et, eo⟩ | ⟨et, eo⟩
    · exact Or.inr (Or.inl eo)
    · exact Or.inr (Or.inr (eo))
    · exact Or.inl ⟨_, eo⟩
  have hcd : z_cd [("java/util/NoSuchElementException", 1), ("java/lang/IllegalArgumentException", 2)] (q_oI ((x_am_statusAfter s.1 s.2.1 s.2.2.1 s.2.2.2.1 s.2.2.2.2.1 s.2.2.2.2.2.1 s.2.2.2.2.2.2.1 s.2.2.2.2.2.2.2.1 s.2.2.2.2.2.2.2.2.1 s.2.2.2.2.2.2.2.2.2.1 s.2.2.2.2.2.2.2.2.2.2.1 s.2.2.2.2.2.2.2.2.2.2.2.1 s.2.2.2.2.2.2.2.2.2.2.2.2 s2.1 s2.2.1 s2.2.2.1 s2.2.2.2.1 s2.2.2.2.2.1 s2.2.2.2.2.2.1 s2.2.2.2.2.2.2.1 s2.2.2.2.2.2.2.2.1 s2.2.2.2.2.2.2.2.2.1 s2.2.2.2.2.2.2.2.2.2.1 s2.2.2.2.2.2.2.2.2.2.2.1 s2.2.2.2.2.2.2.2.2.2.2.2.1 s2.2.2.2.2.2.2.2.2.2.2.2.2 ca cj co (g.2.2.2.2.2.2 (i + 1)) (g.2.2.2.2.2.2 (i + 2))).1)) = (x_mo_statusAfter al ac rj ro s.1 (g.2.2.2.2.2.2 (i + 1)) (g.2.2.2.2.2.2 (i + 2))).2.1 := by
    rcases ag with ⟨et, eo⟩ | ⟨et, eo⟩ | ⟨et, eo⟩
    · rw [et, eo]; rfl
    · rw [et, eo]; rfl
    · rw [et, eo]; rfl
  have hB9 : ∀ h1, (z_C h1 hs se sf s s1 nx kp rw ic fi lc fl ∧ q_zone h h1 100 115) → h1.2 223 = some (.inl (4, 1, .inr (.inl f))) := fun h1 hb => (hb.2.2 _ (by omega) (by omega)).trans c223
  refine q_invSH (mc' := 2) (ms' := 12) (d' := d - 1) (as := [.ref 100, .int ((g.2.2.2.2.2.2 (i + 1))), .int ((g.2.2.2.2.2.2 (i + 2))), .ref 223]) dL_law_2087 kM_L_statusAfter kL_L_298 kT_L_statusAfter rfl rfl rfl (Nat.le_of_ble_eq_true rfl) (by omega) (by decide) (by omega) (by omega) (e_L_statusAfter (d := d - 1) (dd := d - 2) w.1.c0 hB9 ho9 (c_statusAfter (g := g) (h := h) (d := d - 2) w (g.2.2.2.2.2.2 (i + 1)) (g.2.2.2.2.2.2 (i + 2)) (by omega)) (by omega)) (q_kC (fun h1 hB => ?_)) q_xC
  obtain ⟨h0, ⟨wc1, q1⟩, e9⟩ := hB
  obtain ⟨f2, c223b, hf2⟩ := z_outL_c (o := q_oI ((x_am_statusAfter s.1 s.2.1 s.2.2.1 s.2.2.2.1 s.2.2.2.2.1 s.2.2.2.2.2.1 s.2.2.2.2.2.2.1 s.2.2.2.2.2.2.2.1 s.2.2.2.2.2.2.2.2.1 s.2.2.2.2.2.2.2.2.2.1 s.2.2.2.2.2.2.2.2.2.2.1 s.2.2.2.2.2.2.2.2.2.2.2.1 s.2.2.2.2.2.2.2.2.2.2.2.2 s2.1 s2.2.1 s2.2.2.1 s2.2.2.2.1 s2.2.2.2.2.1 s2.2.2.2.2.2.1 s2.2.2.2.2.2.2.1 s2.2.2.2.2.2.2.2.1 s2.2.2.2.2.2.2.2.2.1 s2.2.2.2.2.2.2.2.2.2.1 s2.2.2.2.2.2.2.2.2.2.2.1 s2.2.2.2.2.2.2.2.2.2.2.2.1 s2.2.2.2.2.2.2.2.2.2.2.2.2 ca cj co (g.2.2.2.2.2.2 (i + 1)) (g.2.2.2.2.2.2 (i + 2))).1)) (hB9 h0 ⟨wc1, q1⟩)
  have qs : q_same h0 h1 223 1 := e9 ▸ z_outL_same
  rw [← e9] at c223b
  clear e9
  have hz : 225 ≤ h.1 := w.2.2.2.2.2.2.2.2.2.s0
  have hz0 : h.1 ≤ h0.1 := q1.1
  have c224b : h1.2 224 = _ := (qs.2 _ (by omega) (by omega)).trans ((q1.2 _ (by omega) (by omega)).trans c224)
  have w1 := wc1.keep (qs.wide (by omega) (by omega))
  have m1 := m.keepI (h1 := h1) (Nat.le_trans q1.1 qs.1) (fun j b1 b2 => (qs.2 j (by omega) (by omega)).trans (q1.2 j (by omega) (by omega)))
  clear wc1 hB9 ho9 m
  change q_W _ _ _ _ _ _ _ _ 2090 [.ref 0, .ref 100, .ref 215, .ref 223, .ref 224, .int (nI i), q_u, q_u, q_u] [.int (z_cd [("java/util/NoSuchElementException", 1), ("java/lang/IllegalArgumentException", 2)] (q_oI ((x_am_statusAfter s.1 s.2.1 s.2.2.1 s.2.2.2.1 s.2.2.2.2.1 s.2.2.2.2.2.1 s.2.2.2.2.2.2.1 s.2.2.2.2.2.2.2.1 s.2.2.2.2.2.2.2.2.1 s.2.2.2.2.2.2.2.2.2.1 s.2.2.2.2.2.2.2.2.2.2.1 s.2.2.2.2.2.2.2.2.2.2.2.1 s.2.2.2.2.2.2.2.2.2.2.2.2 s2.1 s2.2.1 s2.2.2.1 s2.2.2.2.1 s2.2.2.2.2.1 s2.2.2.2.2.2.1 s2.2.2.2.2.2.2.1 s2.2.2.2.2.2.2.2.1 s2.2.2.2.2.2.2.2.2.1 s2.2.2.2.2.2.2.2.2.2.1 s2.2.2.2.2.2.2.2.2.2.2.1 s2.2.2.2.2.2.2.2.2.2.2.2.1 s2.2.2.2.2.2.2.2.2.2.2.2.2 ca cj co (g.2.2.2.2.2.2 (i + 1)) (g.2.2.2.2.2.2 (i + 2))).1)))] h1
  rw [hcd]
  refine q_istore dL_law_2090 (by decide) rfl ?_
  change q_W _ _ _ _ _ _ _ _ 2092 [.ref 0, .ref 100, .ref 215, .ref 223, .ref 224, .int (nI i), .int ((x_mo_statusAfter al ac rj ro s.1 (g.2.2.2.2.2.2 (i + 1)) (g.2.2.2.2.2.2 (i + 2))).2.1), q_u, q_u] [] h1
  refine q_aload_n (by first | assumption | (rw [q_R0e]; omega)) dL_law_2092 rfl ?_
  refine q_aload_nO ho dL_law_2093 rfl ?_
  refine q_iload dL_law_2094 rfl ?_
  refine q_iconst (v := 1) dL_law_2096 rfl ?_
  refine q_iaddN (a := i) (b := 1) dL_law_2097 ?_
  refine q_taldIN (by decide) dL_law_2098 (rfl : q_ar g 0 = _) (by omega) hN ?_
  change q_W _ _ _ _ _ _ _ _ _ _ [.int (g.2.2.2.2.2.2 (i + 1)), .ref 215] _
  refine q_aload_nO ho dL_law_2099 rfl ?_
  refine q_iload dL_law_2100 rfl ?_
  refine q_iconst (v := 2) dL_law_2102 rfl ?_
  refine q_iaddN (a := i) (b := 2) dL_law_2103 ?_
  refine q_taldIN (by decide) dL_law_2104 (rfl : q_ar g 0 = _) (by omega) hN ?_
  change q_W _ _ _ _ _ _ _ _ _ _ [.int (g.2.2.2.2.2.2 (i + 2)), .int ((g.2.2.2.2.2.2 (i + 1))), .ref 215] _
  refine q_invV (mc' := 0) (ms' := 0) (d' := d - 1) (as := [.int ((g.2.2.2.2.2.2 (i + 1))), .int ((g.2.2.2.2.2.2 (i + 2)))]) dL_law_2105 kM_X11_statusAfter kL_L_300 kI_X11_statusAfter kS_X11_statusAfter rfl (kC_X11.1) m1.c0 rfl rfl (Nat.le_of_ble_eq_true rfl) (by omega) (by decide) (by omega) (by omega) (r_statusAfter (g := g) (d := d - 1) m1 e0 hn e3 hm (g.2.2.2.2.2.2 (i + 1)) (g.2.2.2.2.2.2 (i + 2)) (by omega)) (q_kC (fun h3 hB3 => ?_)) q_xC
  obtain ⟨m3, q3⟩ := hB3
  obtain ⟨rs3, ac3, rj3, ro3, bf3, he3, er3, cm3, cn3, m3⟩ := m3
  change q_W _ _ _ _ _ _ _ _ 2108 [.ref 0, .ref 100, .ref 215, .ref 223, .ref 224, .int (nI i), .int ((x_mo_statusAfter al ac rj ro s.1 (g.2.2.2.2.2.2 (i + 1)) (g.2.2.2.2.2.2 (i + 2))).2.1), q_u, q_u] [.int ((x_mo_statusAfter al ac rj ro s.1 (g.2.2.2.2.2.2 (i + 1)) (g.2.2.2.2.2.2 (i + 2))).1)] h3
  refine q_istore dL_law_2108 (by decide) rfl ?_
  change q_W _ _ _ _ _ _ _ _ 2110 [.ref 0, .ref 100, .ref 215, .ref 223, .ref 224, .int (nI i), .int ((x_mo_statusAfter al ac rj ro s.1 (g.2.2.2.2.2.2 (i + 1)) (g.2.2.2.2.2.2 (i + 2))).2.1), .int ((x_mo_statusAfter al ac rj ro s.1 (g.2.2.2.2.2.2 (i + 1)) (g.2.2.2.2.2.2 (i + 2))).1), q_u] [] h3
  refine q_aload_n (by first | assumption | (rw [q_R0e]; omega)) dL_law_2110 rfl ?_
  refine q_invV (mc' := 0) (ms' := 0) (d' := d - 1) (as := []) dL_law_2111 kM_X11_thrown kL_L_166 kI_X11_thrown kS_X11_thrown rfl (kC_X11.1) m3.c0 rfl rfl (Nat.le_of_ble_eq_true rfl) (by omega) (by decide) (by omega) (by omega) (e_mo_thrownR (d := d - 1) m3 (by omega)) (q_kR ?_) q_xR
  change q_W _ _ _ _ _ _ _ _ 2114 [.ref 0, .ref 100, .ref 215, .ref 223, .ref 224, .int (nI i), .int ((x_mo_statusAfter al ac rj ro s.1 (g.2.2.2.2.2.2 (i + 1)) (g.2.2.2.2.2.2 (i + 2))).2.1), .int ((x_mo_statusAfter al ac rj ro s.1 (g.2.2.2.2.2.2 (i + 1)) (g.2.2.2.2.2.2 (i + 2))).1), q_u] [.int ((x_mo_statusAfter al ac rj ro s.1 (g.2.2.2.2.2.2 (i + 1)) (g.2.2.2.2.2.2 (i + 2))).2.1)] h3
  refine q_iload dL_law_2114 rfl ?_
  refine q_icmp_eq 2121 dL_law_2116 (by decide) (fun _ => ?_) (fun b => absurd rfl b)
  refine q_iload dL_law_2121 rfl ?_
  have hz3 : h1.1 ≤ h3.1 := q3.1
  have hz4 : h0.1 ≤ h1.1 := qs.1
  have fin : q_W g mL_law d mc ms Q (kc + 2) (ks + 12) 2138 [.ref 0, .ref 100, .ref 215, .ref 223, .ref 224, .int (nI i), .int ((x_mo_statusAfter al ac rj ro s.1 (g.2.2.2.2.2.2 (i + 1)) (g.2.2.2.2.2.2 (i + 2))).2.1), .int ((x_mo_statusAfter al ac rj ro s.1 (g.2.2.2.2.2.2 (i + 1)) (g.2.2.2.2.2.2 (i + 2))).1), q_u] [] h3 := by
    refine q_goto 2985 dL_law_2138 (by decide) ?_
    refine q_forget 6 ?_
    refine q_forget 7 ?_
    change q_W _ _ _ _ _ _ _ _ 2985 [.ref 0, .ref 100, .ref 215, .ref 223, .ref 224, .int (nI i), q_u, q_u, q_u] [] h3
    exact q_widen (by omega) (by omega) (K h3 ⟨_, _, _, _, _, _, _, _, _, _, _, _, _, _, _, _, _, _, _, _, _, _, w1.keep (q3.wide (by omega) (by omega)), ⟨_, ⟨_, _, _, _, _, _, _, _, _, m3⟩⟩, ⟨_, (q3.2 _ (by omega) (by omega)).trans c223b⟩, ⟨_, (q3.2 _ (by omega) (by omega)).trans c224b⟩, J2⟩)
  refine q_if_ne 2138 dL_law_2123 (by decide) (fun _ => fin) (fun b => ?_)
  have eo9 : (q_oI ((x_am_statusAfter s.1 s.2.1 s.2.2.1 s.2.2.2.1 s.2.2.2.2.1 s.2.2.2.2.2.1 s.2.2.2.2.2.2.1 s.2.2.2.2.2.2.2.1 s.2.2.2.2.2.2.2.2.1 s.2.2.2.2.2.2.2.2.2.1 s.2.2.2.2.2.2.2.2.2.2.1 s.2.2.2.2.2.2.2.2.2.2.2.1 s.2.2.2.2.2.2.2.2.2.2.2.2 s2.1 s2.2.1 s2.2.2.1 s2.2.2.2.1 s2.2.2.2.2.1 s2.2.2.2.2.2.1 s2.2.2.2.2.2.2.1 s2.2.2.2.2.2.2.2.1 s2.2.2.2.2.2.2.2.2.1 s2.2.2.2.2.2.2.2.2.2.1 s2.2.2.2.2.2.2.2.2.2.2.1 s2.2.2.2.2.2.2.2.2.2.2.2.1 s2.2.2.2.2.2.2.2.2.2.2.2.2 ca cj co (g.2.2.2.2.2.2 (i + 1)) (g.2.2.2.2.2.2 (i + 2))).1)) = .inl (some (.int ((x_mo_statusAfter al ac rj ro s.1 (g.2.2.2.2.2.2 (i + 1)) (g.2.2.2.2.2.2 (i + 2))).1))) := by
    rcases ag with ⟨et, eo⟩ | ⟨et, eo⟩ | ⟨et, eo⟩
    · exact absurd (et.symm.trans b) (by decide)
    · exact absurd (et.symm.trans b) (by decide)
    · exact eo
  have ev := hf2 _ eo9
  refine q_aload_n (by first | assumption | (rw [q_R0e]; omega)) dL_law_2126 rfl ?_
  refine q_iconst (v := 0) dL_law_2127 rfl ?_
  refine q_lald (f := f2) dL_law_2128 ((q3.2 _ (by omega) (by omega)).trans c223b) (vp_in_nI (n := 0) (N := 1) (by decide) (by decide)) ?_
  change q_W _ _ _ _ _ _ _ _ _ _ [.long (f2 0)] _
  rw [ev]
  refine q_iload dL_law_2129 rfl ?_
  refine q_i2l dL_law_2131 rfl ?_
  refine q_lcmp dL_law_2132 ?_
  rw [z_lcmp]
  exact q_if_eq 2138 dL_law_2133 (by decide) (fun _ => fin) (fun b => absurd rfl b)
set_option maxRecDepth 100000 in
set_option maxHeartbeats 4000000 in
theorem l_c_argumentByStrength {g : q_G} {h : q_H} {d mc ms kc ks i t : Nat} {Q : q_O → q_H → Prop} (hP : z_P_argumentByStrength) (hI : z_I t h) (ht : t < 512) (hi : i + 2 < g.2.2.2.2.2.1) (hN : g.2.2.2.2.2.1 < 2 ^ 31) (ho : q_isold g 0) (hd : 26 ≤ d) (hkc : kc + 66 ≤ mc) (hks : ks + 10588 ≤ ms) (K : ∀ h2, z_I (t + 1) h2 → q_W g mL_law d mc ms Q (kc + 66) (ks + 10588) 2985 [.ref 0, .ref 100, .ref 215, .ref 223, .ref 224, .int (nI i), q_u, q_u, q_u] [] h2) : q_W g mL_law d mc ms Q kc ks 2141 [.ref 0, .ref 100, .ref 215, .ref 223, .ref 224, .int (nI i), q_u, q_u, q_u] [] h := by
  obtain ⟨hs, se, sf, s, s1, nx, kp, rw, ic, fi, lc, fl, al, cg, sv, ad, ln, lz, ip, ty, ea, fa, wc, ⟨th, wm⟩, ⟨f, c223⟩, ⟨fd, c224⟩, J⟩ := hI
  obtain ⟨s2, ca, cj, co, won, lost, pf, cv, sc, pc, pp, po, vb, oa, ob, w⟩ := wc
  obtain ⟨rs, ac, rj, ro, bf, he, er, cm, cn, m⟩ := wm
  obtain ⟨e0, hn, e3, hm⟩ := J.n0
  obtain ⟨ag, J2⟩ := hP t hs se sf s s1 nx kp rw ic fi lc fl al cg sv ad ln lz ip ty ea fa th (g.2.2.2.2.2.2 (i + 1)) ht J
  refine q_aload_n (by first | assumption | (rw [q_R0e]; omega)) dL_law_2141 rfl ?_
  refine q_aload_nO ho dL_law_2142 rfl ?_
  refine q_iload dL_law_2143 rfl ?_
  refine q_iconst (v := 1) dL_law_2145 rfl ?_
  refine q_iaddN (a := i) (b := 1) dL_law_2146 ?_
  refine q_taldIN (by decide) dL_law_2147 (rfl : q_ar g 0 = _) (by omega) hN ?_
  change q_W _ _ _ _ _ _ _ _ _ _ [.int (g.2.2.2.2.2.2 (i + 1)), .ref 100] _
  refine q_aload_n (by first | assumption | (rw [q_R0e]; omega)) dL_law_2148 rfl ?_
  have ho9 : (∃ v, (q_oI ((x_am_argumentByStrength s.1 s.2.1 s.2.2.1 s.2.2.2.1 s.2.2.2.2.2.1 (g.2.2.2.2.2.2 (i + 1))))) = .inl (some (.int v))) ∨ (q_oI ((x_am_argumentByStrength s.1 s.2.1 s.2.2.1 s.2.2.2.1 s.2.2.2.2.2.1 (g.2.2.2.2.2.2 (i + 1))))) = .inr "java/util/NoSuchElementException" := by
    rcases ag with ⟨et, eo⟩ | ⟨et, eo⟩
    · exact Or.inr (eo)
    · exact Or.inl ⟨_, eo⟩
  have hcd : z_cd [("java/util/NoSuchElementException", 1)] (q_oI ((x_am_argumentByStrength s.1 s.2.1 s.2.2.1 s.2.2.2.1 s.2.2.2.2.2.1 (g.2.2.2.2.2.2 (i + 1))))) = (x_mo_argumentByStrength th al s.1 (g.2.2.2.2.2.2 (i + 1))).2 := by
    rcases ag with ⟨et, eo⟩ | ⟨et, eo⟩
    · rw [et, eo]; rfl
    · rw [et, eo]; rfl
  have hB9 : ∀ h1, (z_C h1 hs se sf s s1 nx kp rw ic fi lc fl ∧ q_zone h h1 100 115) → h1.2 223 = some (.inl (4, 1, .inr (.inl f))) := fun h1 hb => (hb.2.2 _ (by omega) (by omega)).trans c223
  refine q_invSH (mc' := 1) (ms' := 6) (d' := d - 1) (as := [.ref 100, .int ((g.2.2.2.2.2.2 (i + 1))), .ref 223]) dL_law_2149 kM_L_argumentByStrength kL_L_301 kT_L_argumentByStrength rfl rfl rfl (Nat.le_of_ble_eq_true rfl) (by omega) (by decide) (by omega) (by omega) (e_L_argumentByStrength (d := d - 1) (dd := d - 2) w.1.c0 hB9 ho9 (c_argumentByStrength (g := g) (h := h) (d := d - 2) w (g.2.2.2.2.2.2 (i + 1)) (by omega)) (by omega)) (q_kC (fun h1 hB => ?_)) q_xC
  obtain ⟨h0, ⟨wc1, q1⟩, e9⟩ := hB
  obtain ⟨f2, c223b, hf2⟩ := z_outL_c (o := q_oI ((x_am_argumentByStrength s.1 s.2.1 s.2.2.1 s.2.2.2.1 s.2.2.2.2.2.1 (g.2.2.2.2.2.2 (i + 1))))) (hB9 h0 ⟨wc1, q1⟩)
  have qs : q_same h0 h1 223 1 := e9 ▸ z_outL_same
  rw [← e9] at c223b
  clear e9
  have hz : 225 ≤ h.1 := w.2.2.2.2.2.2.2.2.2.s0
  have hz0 : h.1 ≤ h0.1 := q1.1
  have c224b : h1.2 224 = _ := (qs.2 _ (by omega) (by omega)).trans ((q1.2 _ (by omega) (by omega)).trans c224)
  have w1 := wc1.keep (qs.wide (by omega) (by omega))
  have m1 := m.keepI (h1 := h1) (Nat.le_trans q1.1 qs.1) (fun j b1 b2 => (qs.2 j (by omega) (by omega)).trans (q1.2 j (by omega) (by omega)))
  clear wc1 hB9 ho9 m
  change q_W _ _ _ _ _ _ _ _ 2152 [.ref 0, .ref 100, .ref 215, .ref 223, .ref 224, .int (nI i), q_u, q_u, q_u] [.int (z_cd [("java/util/NoSuchElementException", 1)] (q_oI ((x_am_argumentByStrength s.1 s.2.1 s.2.2.1 s.2.2.2.1 s.2.2.2.2.2.1 (g.2.2.2.2.2.2 (i + 1))))))] h1
  rw [hcd]
  refine q_istore dL_law_2152 (by decide) rfl ?_
  change q_W _ _ _ _ _ _ _ _ 2154 [.ref 0, .ref 100, .ref 215, .ref 223, .ref 224, .int (nI i), .int ((x_mo_argumentByStrength th al s.1 (g.2.2.2.2.2.2 (i + 1))).2), q_u, q_u] [] h1
  refine q_aload_n (by first | assumption | (rw [q_R0e]; omega)) dL_law_2154 rfl ?_
  refine q_aload_nO ho dL_law_2155 rfl ?_
  refine q_iload dL_law_2156 rfl ?_
  refine q_iconst (v := 1) dL_law_2158 rfl ?_
  refine q_iaddN (a := i) (b := 1) dL_law_2159 ?_
  refine q_taldIN (by decide) dL_law_2160 (rfl : q_ar g 0 = _) (by omega) hN ?_
  change q_W _ _ _ _ _ _ _ _ _ _ [.int (g.2.2.2.2.2.2 (i + 1)), .ref 215] _
  refine q_invV (mc' := 0) (ms' := 0) (d' := d - 1) (as := [.int ((g.2.2.2.2.2.2 (i + 1)))]) dL_law_2161 kM_X11_argumentByStrength kL_L_303 kI_X11_argumentByStrength kS_X11_argumentByStrength rfl (kC_X11.1) m1.c0 rfl rfl (Nat.le_of_ble_eq_true rfl) (by omega) (by decide) (by omega) (by omega) (r_argumentByStrength (g := g) (d := d - 1) m1 e0 hn e3 hm (g.2.2.2.2.2.2 (i + 1)) (by omega)) (q_kC (fun h3 hB3 => ?_)) q_xC
  obtain ⟨m3, q3⟩ := hB3
  obtain ⟨rs3, ac3, rj3, ro3, bf3, he3, er3, cm3, cn3, m3⟩ := m3
  change q_W _ _ _ _ _ _ _ _ 2164 [.ref 0, .ref 100, .ref 215, .ref 223, .ref 224, .int (nI i), .int ((x_mo_argumentByStrength th al s.1 (g.2.2.2.2.2.2 (i + 1))).2), q_u, q_u] [.int ((x_mo_argumentByStrength th al s.1 (g.2.2.2.2.2.2 (i + 1))).1)] h3
  refine q_istore dL_law_2164 (by decide) rfl ?_
  change q_W _ _ _ _ _ _ _ _ 2166 [.ref 0, .ref 100, .ref 215, .ref 223, .ref 224, .int (nI i), .int ((x_mo_argumentByStrength th al s.1 (g.2.2.2.2.2.2 (i + 1))).2), .int ((x_mo_argumentByStrength th al s.1 (g.2.2.2.2.2.2 (i + 1))).1), q_u] [] h3
  refine q_aload_n (by first | assumption | (rw [q_R0e]; omega)) dL_law_2166 rfl ?_
  refine q_invV (mc' := 0) (ms' := 0) (d' := d - 1) (as := []) dL_law_2167 kM_X11_thrown kL_L_166 kI_X11_thrown kS_X11_thrown rfl (kC_X11.1) m3.c0 rfl rfl (Nat.le_of_ble_eq_true rfl) (by omega) (by decide) (by omega) (by omega) (e_mo_thrownR (d := d - 1) m3 (by omega)) (q_kR ?_) q_xR
  change q_W _ _ _ _ _ _ _ _ 2170 [.ref 0, .ref 100, .ref 215, .ref 223, .ref 224, .int (nI i), .int ((x_mo_argumentByStrength th al s.1 (g.2.2.2.2.2.2 (i + 1))).2), .int ((x_mo_argumentByStrength th al s.1 (g.2.2.2.2.2.2 (i + 1))).1), q_u] [.int ((x_mo_argumentByStrength th al s.1 (g.2.2.2.2.2.2 (i + 1))).2)] h3
  refine q_iload dL_law_2170 rfl ?_
  refine q_icmp_eq 2177 dL_law_2172 (by decide) (fun _ => ?_) (fun b => absurd rfl b)
  refine q_iload dL_law_2177 rfl ?_
  have hz3 : h1.1 ≤ h3.1 := q3.1
  have hz4 : h0.1 ≤ h1.1 := qs.1
  have fin : q_W g mL_law d mc ms Q (kc + 1) (ks + 6) 2194 [.ref 0, .ref 100, .ref 215, .ref 223, .ref 224, .int (nI i), .int ((x_mo_argumentByStrength th al s.1 (g.2.2.2.2.2.2 (i + 1))).2), .int ((x_mo_argumentByStrength th al s.1 (g.2.2.2.2.2.2 (i + 1))).1), q_u] [] h3 := by
    refine q_goto 2985 dL_law_2194 (by decide) ?_
    refine q_forget 6 ?_
    refine q_forget 7 ?_
    change q_W _ _ _ _ _ _ _ _ 2985 [.ref 0, .ref 100, .ref 215, .ref 223, .ref 224, .int (nI i), q_u, q_u, q_u] [] h3
    exact q_widen (by omega) (by omega) (K h3 ⟨_, _, _, _, _, _, _, _, _, _, _, _, _, _, _, _, _, _, _, _, _, _, w1.keep (q3.wide (by omega) (by omega)), ⟨_, ⟨_, _, _, _, _, _, _, _, _, m3⟩⟩, ⟨_, (q3.2 _ (by omega) (by omega)).trans c223b⟩, ⟨_, (q3.2 _ (by omega) (by omega)).trans c224b⟩, J2⟩)
  refine q_if_ne 2194 dL_law_2179 (by decide) (fun _ => fin) (fun b => ?_)
  have eo9 : (q_oI ((x_am_argumentByStrength s.1 s.2.1 s.2.2.1 s.2.2.2.1 s.2.2.2.2.2.1 (g.2.2.2.2.2.2 (i + 1))))) = .inl (some (.int ((x_mo_argumentByStrength th al s.1 (g.2.2.2.2.2.2 (i + 1))).1))) := by
    rcases ag with ⟨et, eo⟩ | ⟨et, eo⟩
    · exact absurd (et.symm.trans b) (by decide)
    · exact eo
  have ev := hf2 _ eo9
  refine q_aload_n (by first | assumption | (rw [q_R0e]; omega)) dL_law_2182 rfl ?_
  refine q_iconst (v := 0) dL_law_2183 rfl ?_
  refine q_lald (f := f2) dL_law_2184 ((q3.2 _ (by omega) (by omega)).trans c223b) (vp_in_nI (n := 0) (N := 1) (by decide) (by decide)) ?_
  change q_W _ _ _ _ _ _ _ _ _ _ [.long (f2 0)] _
  rw [ev]
  refine q_iload dL_law_2185 rfl ?_
  refine q_i2l dL_law_2187 rfl ?_
  refine q_lcmp dL_law_2188 ?_
  rw [z_lcmp]
  exact q_if_eq 2194 dL_law_2189 (by decide) (fun _ => fin) (fun b => absurd rfl b)
set_option maxRecDepth 100000 in
set_option maxHeartbeats 4000000 in
theorem l_c_isDialogueHeld {g : q_G} {h : q_H} {d mc ms kc ks i t : Nat} {Q : q_O → q_H → Prop} (hP : z_P_isDialogueHeld) (hI : z_I t h) (ht : t < 512) (hi : i + 2 < g.2.2.2.2.2.1) (hN : g.2.2.2.2.2.1 < 2 ^ 31) (ho : q_isold g 0) (hd : 26 ≤ d) (hkc : kc + 66 ≤ mc) (hks : ks + 10588 ≤ ms) (K : ∀ h2, z_I (t + 1) h2 → q_W g mL_law d mc ms Q (kc + 66) (ks + 10588) 2985 [.ref 0, .ref 100, .ref 215, .ref 223, .ref 224, .int (nI i), q_u, q_u, q_u] [] h2) : q_W g mL_law d mc ms Q kc ks 2197 [.ref 0, .ref 100, .ref 215, .ref 223, .ref 224, .int (nI i), q_u, q_u, q_u] [] h := by
  obtain ⟨hs, se, sf, s, s1, nx, kp, rw, ic, fi, lc, fl, al, cg, sv, ad, ln, lz, ip, ty, ea, fa, wc, ⟨th, wm⟩, ⟨f, c223⟩, ⟨fd, c224⟩, J⟩ := hI
  obtain ⟨s2, ca, cj, co, won, lost, pf, cv, sc, pc, pp, po, vb, oa, ob, w⟩ := wc
  obtain ⟨rs, ac, rj, ro, bf, he, er, cm, cn, m⟩ := wm
  obtain ⟨e0, hn, e3, hm⟩ := J.n0
  obtain ⟨ag, J2⟩ := hP t hs se sf s s1 nx kp rw ic fi lc fl al cg sv ad ln lz ip ty ea fa   ht J
  refine q_aload_n (by first | assumption | (rw [q_R0e]; omega)) dL_law_2197 rfl ?_
  refine q_invV (mc' := 0) (ms' := 0) (d' := d - 1) (as := []) dL_law_2198 kM_X10_isDialogueHeld kL_L_304 kI_X10_isDialogueHeld kS_X10_isDialogueHeld rfl (kC_X10.1) w.1.c0 rfl rfl (Nat.le_of_ble_eq_true rfl) (by omega) (by decide) (by omega) (by omega) (c_isDialogueHeld (g := g) (h := h) (d := d - 1) w (by omega)) (q_kC (fun h1 hB => ?_)) q_xC
  obtain ⟨w1, q1⟩ := hB
  have hz : 225 ≤ h.1 := w.2.2.2.2.2.2.2.2.2.s0
  have hz0 : h.1 ≤ h1.1 := q1.1
  have m1 := m.keepI (h1 := h1) q1.1 (fun j b1 b2 => q1.2 j (by omega) (by omega))
  have c223b := (q1.2 _ (by omega) (by omega)).trans c223
  have c224b := (q1.2 _ (by omega) (by omega)).trans c224
  change q_W _ _ _ _ _ _ _ _ 2201 [.ref 0, .ref 100, .ref 215, .ref 223, .ref 224, .int (nI i), q_u, q_u, q_u] [.int (z_b ((x_am_isDialogueHeld s.2.2.2.2.2.2.2.2.1)))] h1
  rw [ag]
  refine q_aload_n (by first | assumption | (rw [q_R0e]; omega)) dL_law_2201 rfl ?_
  refine q_invV (mc' := 0) (ms' := 0) (d' := d - 1) (as := []) dL_law_2202 kM_X11_isDialogueHeld kL_L_307 kI_X11_isDialogueHeld kS_X11_isDialogueHeld rfl (kC_X11.1) m1.c0 rfl rfl (Nat.le_of_ble_eq_true rfl) (by omega) (by decide) (by omega) (by omega) (r_isDialogueHeld (g := g) (d := d - 1) m1 e0 hn e3 hm (by omega)) (q_kC (fun h3 hB3 => ?_)) q_xC
  obtain ⟨m3, q3⟩ := hB3
  change q_W _ _ _ _ _ _ _ _ 2205 [.ref 0, .ref 100, .ref 215, .ref 223, .ref 224, .int (nI i), q_u, q_u, q_u] [.int (z_b ((x_mo_isDialogueHeld al).1)), .int (z_b ((x_mo_isDialogueHeld al).1))] h3
  refine q_icmp_eq 2985 dL_law_2205 (by decide) (fun _ => ?_) (fun b => absurd rfl b)
  exact q_widen (by omega) (by omega) (K h3 ⟨_, _, _, _, _, _, _, _, _, _, _, _, _, _, _, _, _, _, _, _, _, _, w1.keep (q3.wide (by omega) (by omega)), ⟨_, m3⟩, ⟨_, (q3.2 _ (by omega) (by omega)).trans c223b⟩, ⟨_, (q3.2 _ (by omega) (by omega)).trans c224b⟩, J2⟩)
set_option maxRecDepth 100000 in
set_option maxHeartbeats 4000000 in
theorem l_c_moveCount {g : q_G} {h : q_H} {d mc ms kc ks i t : Nat} {Q : q_O → q_H → Prop} (hP : z_P_moveCount) (hI : z_I t h) (ht : t < 512) (hi : i + 2 < g.2.2.2.2.2.1) (hN : g.2.2.2.2.2.1 < 2 ^ 31) (ho : q_isold g 0) (hd : 26 ≤ d) (hkc : kc + 66 ≤ mc) (hks : ks + 10588 ≤ ms) (K : ∀ h2, z_I (t + 1) h2 → q_W g mL_law d mc ms Q (kc + 66) (ks + 10588) 2985 [.ref 0, .ref 100, .ref 215, .ref 223, .ref 224, .int (nI i), q_u, q_u, q_u] [] h2) : q_W g mL_law d mc ms Q kc ks 2210 [.ref 0, .ref 100, .ref 215, .ref 223, .ref 224, .int (nI i), q_u, q_u, q_u] [] h := by
  obtain ⟨hs, se, sf, s, s1, nx, kp, rw, ic, fi, lc, fl, al, cg, sv, ad, ln, lz, ip, ty, ea, fa, wc, ⟨th, wm⟩, ⟨f, c223⟩, ⟨fd, c224⟩, J⟩ := hI
  obtain ⟨s2, ca, cj, co, won, lost, pf, cv, sc, pc, pp, po, vb, oa, ob, w⟩ := wc
  obtain ⟨rs, ac, rj, ro, bf, he, er, cm, cn, m⟩ := wm
  obtain ⟨e0, hn, e3, hm⟩ := J.n0
  obtain ⟨ag, J2⟩ := hP t hs se sf s s1 nx kp rw ic fi lc fl al cg sv ad ln lz ip ty ea fa   ht J
  refine q_aload_n (by first | assumption | (rw [q_R0e]; omega)) dL_law_2210 rfl ?_
  refine q_invV (mc' := 0) (ms' := 0) (d' := d - 1) (as := []) dL_law_2211 kM_X10_moveCount kL_L_308 kI_X10_moveCount kS_X10_moveCount rfl (kC_X10.1) w.1.c0 rfl rfl (Nat.le_of_ble_eq_true rfl) (by omega) (by decide) (by omega) (by omega) (c_moveCount (g := g) (h := h) (d := d - 1) w (by omega)) (q_kC (fun h1 hB => ?_)) q_xC
  obtain ⟨w1, q1⟩ := hB
  have hz : 225 ≤ h.1 := w.2.2.2.2.2.2.2.2.2.s0
  have hz0 : h.1 ≤ h1.1 := q1.1
  have m1 := m.keepI (h1 := h1) q1.1 (fun j b1 b2 => q1.2 j (by omega) (by omega))
  have c223b := (q1.2 _ (by omega) (by omega)).trans c223
  have c224b := (q1.2 _ (by omega) (by omega)).trans c224
  change q_W _ _ _ _ _ _ _ _ 2214 [.ref 0, .ref 100, .ref 215, .ref 223, .ref 224, .int (nI i), q_u, q_u, q_u] [.int ((x_am_moveCount s.2.2.2.2.2.2.2.2.1))] h1
  rw [ag]
  refine q_aload_n (by first | assumption | (rw [q_R0e]; omega)) dL_law_2214 rfl ?_
  refine q_invV (mc' := 0) (ms' := 0) (d' := d - 1) (as := []) dL_law_2215 kM_X11_moveCount kL_L_311 kI_X11_moveCount kS_X11_moveCount rfl (kC_X11.1) m1.c0 rfl rfl (Nat.le_of_ble_eq_true rfl) (by omega) (by decide) (by omega) (by omega) (r_moveCount (g := g) (d := d - 1) m1 e0 hn e3 hm (by omega)) (q_kC (fun h3 hB3 => ?_)) q_xC
  obtain ⟨m3, q3⟩ := hB3
  change q_W _ _ _ _ _ _ _ _ 2218 [.ref 0, .ref 100, .ref 215, .ref 223, .ref 224, .int (nI i), q_u, q_u, q_u] [.int ((x_mo_moveCount al).1), .int ((x_mo_moveCount al).1)] h3
  refine q_icmp_eq 2985 dL_law_2218 (by decide) (fun _ => ?_) (fun b => absurd rfl b)
  exact q_widen (by omega) (by omega) (K h3 ⟨_, _, _, _, _, _, _, _, _, _, _, _, _, _, _, _, _, _, _, _, _, _, w1.keep (q3.wide (by omega) (by omega)), ⟨_, m3⟩, ⟨_, (q3.2 _ (by omega) (by omega)).trans c223b⟩, ⟨_, (q3.2 _ (by omega) (by omega)).trans c224b⟩, J2⟩)
set_option maxRecDepth 100000 in
set_option maxHeartbeats 4000000 in
theorem l_c_moveAt {g : q_G} {h : q_H} {d mc ms kc ks i t : Nat} {Q : q_O → q_H → Prop} (hP : z_P_moveAt) (hI : z_I t h) (ht : t < 512) (hi : i + 2 < g.2.2.2.2.2.1) (hN : g.2.2.2.2.2.1 < 2 ^ 31) (ho : q_isold g 0) (hd : 26 ≤ d) (hkc : kc + 66 ≤ mc) (hks : ks + 10588 ≤ ms) (K : ∀ h2, z_I (t + 1) h2 → q_W g mL_law d mc ms Q (kc + 66) (ks + 10588) 2985 [.ref 0, .ref 100, .ref 215, .ref 223, .ref 224, .int (nI i), q_u, q_u, q_u] [] h2) : q_W g mL_law d mc ms Q kc ks 2223 [.ref 0, .ref 100, .ref 215, .ref 223, .ref 224, .int (nI i), q_u, q_u, q_u] [] h := by
  obtain ⟨hs, se, sf, s, s1, nx, kp, rw, ic, fi, lc, fl, al, cg, sv, ad, ln, lz, ip, ty, ea, fa, wc, ⟨th, wm⟩, ⟨f, c223⟩, ⟨fd, c224⟩, J⟩ := hI
  obtain ⟨s2, ca, cj, co, won, lost, pf, cv, sc, pc, pp, po, vb, oa, ob, w⟩ := wc
  obtain ⟨rs, ac, rj, ro, bf, he, er, cm, cn, m⟩ := wm
  obtain ⟨e0, hn, e3, hm⟩ := J.n0
  obtain ⟨ag, J2⟩ := hP t hs se sf s s1 nx kp rw ic fi lc fl al cg sv ad ln lz ip ty ea fa  (g.2.2.2.2.2.2 (i + 1)) ht J
  refine q_aload_n (by first | assumption | (rw [q_R0e]; omega)) dL_law_2223 rfl ?_
  refine q_aload_nO ho dL_law_2224 rfl ?_
  refine q_iload dL_law_2225 rfl ?_
  refine q_iconst (v := 1) dL_law_2227 rfl ?_
  refine q_iaddN (a := i) (b := 1) dL_law_2228 ?_
  refine q_taldIN (by decide) dL_law_2229 (rfl : q_ar g 0 = _) (by omega) hN ?_
  change q_W _ _ _ _ _ _ _ _ _ _ [.int (g.2.2.2.2.2.2 (i + 1)), .ref 100] _
  refine q_aload_n (by first | assumption | (rw [q_R0e]; omega)) dL_law_2230 rfl ?_
  have ho9 : (∃ v, (q_oI ((x_am_moveAt s.2.2.2.2.2.2.2.2.1 s.2.2.2.2.2.2.2.2.2.1 (g.2.2.2.2.2.2 (i + 1))))) = .inl (some (.int v))) ∨ (q_oI ((x_am_moveAt s.2.2.2.2.2.2.2.2.1 s.2.2.2.2.2.2.2.2.2.1 (g.2.2.2.2.2.2 (i + 1))))) = .inr "java/lang/IndexOutOfBoundsException" := by
    rcases ag with ⟨et, eo⟩ | ⟨et, eo⟩
    · exact Or.inr (eo)
    · exact Or.inl ⟨_, eo⟩
  have hcd : z_cd [("java/lang/IndexOutOfBoundsException", 1)] (q_oI ((x_am_moveAt s.2.2.2.2.2.2.2.2.1 s.2.2.2.2.2.2.2.2.2.1 (g.2.2.2.2.2.2 (i + 1))))) = (x_mo_moveAt al s.2.2.2.2.2.2.2.2.1 (g.2.2.2.2.2.2 (i + 1))).2 := by
    rcases ag with ⟨et, eo⟩ | ⟨et, eo⟩
    · rw [et, eo]; rfl
    · rw [et, eo]; rfl
  have hB9 : ∀ h1, (z_C h1 hs se sf s s1 nx kp rw ic fi lc fl ∧ q_zone h h1 100 115) → h1.2 223 = some (.inl (4, 1, .inr (.inl f))) := fun h1 hb => (hb.2.2 _ (by omega) (by omega)).trans c223
  refine q_invSH (mc' := 1) (ms' := 6) (d' := d - 1) (as := [.ref 100, .int ((g.2.2.2.2.2.2 (i + 1))), .ref 223]) dL_law_2231 kM_L_moveAt kL_L_312 kT_L_moveAt rfl rfl rfl (Nat.le_of_ble_eq_true rfl) (by omega) (by decide) (by omega) (by omega) (e_L_moveAt (d := d - 1) (dd := d - 2) w.1.c0 hB9 ho9 (c_moveAt (g := g) (h := h) (d := d - 2) w (g.2.2.2.2.2.2 (i + 1)) (by omega)) (by omega)) (q_kC (fun h1 hB => ?_)) q_xC
  obtain ⟨h0, ⟨wc1, q1⟩, e9⟩ := hB
  obtain ⟨f2, c223b, hf2⟩ := z_outL_c (o := q_oI ((x_am_moveAt s.2.2.2.2.2.2.2.2.1 s.2.2.2.2.2.2.2.2.2.1 (g.2.2.2.2.2.2 (i + 1))))) (hB9 h0 ⟨wc1, q1⟩)
  have qs : q_same h0 h1 223 1 := e9 ▸ z_outL_same
  rw [← e9] at c223b
  clear e9
  have hz : 225 ≤ h.1 := w.2.2.2.2.2.2.2.2.2.s0
  have hz0 : h.1 ≤ h0.1 := q1.1
  have c224b : h1.2 224 = _ := (qs.2 _ (by omega) (by omega)).trans ((q1.2 _ (by omega) (by omega)).trans c224)
  have w1 := wc1.keep (qs.wide (by omega) (by omega))
  have m1 := m.keepI (h1 := h1) (Nat.le_trans q1.1 qs.1) (fun j b1 b2 => (qs.2 j (by omega) (by omega)).trans (q1.2 j (by omega) (by omega)))
  clear wc1 hB9 ho9 m
  change q_W _ _ _ _ _ _ _ _ 2234 [.ref 0, .ref 100, .ref 215, .ref 223, .ref 224, .int (nI i), q_u, q_u, q_u] [.int (z_cd [("java/lang/IndexOutOfBoundsException", 1)] (q_oI ((x_am_moveAt s.2.2.2.2.2.2.2.2.1 s.2.2.2.2.2.2.2.2.2.1 (g.2.2.2.2.2.2 (i + 1))))))] h1
  rw [hcd]
  refine q_istore dL_law_2234 (by decide) rfl ?_
  change q_W _ _ _ _ _ _ _ _ 2236 [.ref 0, .ref 100, .ref 215, .ref 223, .ref 224, .int (nI i), .int ((x_mo_moveAt al s.2.2.2.2.2.2.2.2.1 (g.2.2.2.2.2.2 (i + 1))).2), q_u, q_u] [] h1
  refine q_aload_n (by first | assumption | (rw [q_R0e]; omega)) dL_law_2236 rfl ?_
  refine q_aload_nO ho dL_law_2237 rfl ?_
  refine q_iload dL_law_2238 rfl ?_
  refine q_iconst (v := 1) dL_law_2240 rfl ?_
  refine q_iaddN (a := i) (b := 1) dL_law_2241 ?_
  refine q_taldIN (by decide) dL_law_2242 (rfl : q_ar g 0 = _) (by omega) hN ?_
  change q_W _ _ _ _ _ _ _ _ _ _ [.int (g.2.2.2.2.2.2 (i + 1)), .ref 215] _
  refine q_invV (mc' := 0) (ms' := 0) (d' := d - 1) (as := [.int ((g.2.2.2.2.2.2 (i + 1)))]) dL_law_2243 kM_X11_moveAt kL_L_314 kI_X11_moveAt kS_X11_moveAt rfl (kC_X11.1) m1.c0 rfl rfl (Nat.le_of_ble_eq_true rfl) (by omega) (by decide) (by omega) (by omega) (r_moveAt (g := g) (d := d - 1) m1 e0 hn e3 hm (g.2.2.2.2.2.2 (i + 1)) (by omega)) (q_kC (fun h3 hB3 => ?_)) q_xC
  obtain ⟨m3, q3⟩ := hB3
  obtain ⟨rs3, ac3, rj3, ro3, bf3, he3, er3, cm3, cn3, m3⟩ := m3
  change q_W _ _ _ _ _ _ _ _ 2246 [.ref 0, .ref 100, .ref 215, .ref 223, .ref 224, .int (nI i), .int ((x_mo_moveAt al s.2.2.2.2.2.2.2.2.1 (g.2.2.2.2.2.2 (i + 1))).2), q_u, q_u] [.int ((x_mo_moveAt al s.2.2.2.2.2.2.2.2.1 (g.2.2.2.2.2.2 (i + 1))).1)] h3
  refine q_istore dL_law_2246 (by decide) rfl ?_
  change q_W _ _ _ _ _ _ _ _ 2248 [.ref 0, .ref 100, .ref 215, .ref 223, .ref 224, .int (nI i), .int ((x_mo_moveAt al s.2.2.2.2.2.2.2.2.1 (g.2.2.2.2.2.2 (i + 1))).2), .int ((x_mo_moveAt al s.2.2.2.2.2.2.2.2.1 (g.2.2.2.2.2.2 (i + 1))).1), q_u] [] h3
  refine q_aload_n (by first | assumption | (rw [q_R0e]; omega)) dL_law_2248 rfl ?_
  refine q_invV (mc' := 0) (ms' := 0) (d' := d - 1) (as := []) dL_law_2249 kM_X11_thrown kL_L_166 kI_X11_thrown kS_X11_thrown rfl (kC_X11.1) m3.c0 rfl rfl (Nat.le_of_ble_eq_true rfl) (by omega) (by decide) (by omega) (by omega) (e_mo_thrownR (d := d - 1) m3 (by omega)) (q_kR ?_) q_xR
  change q_W _ _ _ _ _ _ _ _ 2252 [.ref 0, .ref 100, .ref 215, .ref 223, .ref 224, .int (nI i), .int ((x_mo_moveAt al s.2.2.2.2.2.2.2.2.1 (g.2.2.2.2.2.2 (i + 1))).2), .int ((x_mo_moveAt al s.2.2.2.2.2.2.2.2.1 (g.2.2.2.2.2.2 (i + 1))).1), q_u] [.int ((x_mo_moveAt al s.2.2.2.2.2.2.2.2.1 (g.2.2.2.2.2.2 (i + 1))).2)] h3
  refine q_iload dL_law_2252 rfl ?_
  refine q_icmp_eq 2259 dL_law_2254 (by decide) (fun _ => ?_) (fun b => absurd rfl b)
  refine q_iload dL_law_2259 rfl ?_
  have hz3 : h1.1 ≤ h3.1 := q3.1
  have hz4 : h0.1 ≤ h1.1 := qs.1
  have fin : q_W g mL_law d mc ms Q (kc + 1) (ks + 6) 2276 [.ref 0, .ref 100, .ref 215, .ref 223, .ref 224, .int (nI i), .int ((x_mo_moveAt al s.2.2.2.2.2.2.2.2.1 (g.2.2.2.2.2.2 (i + 1))).2), .int ((x_mo_moveAt al s.2.2.2.2.2.2.2.2.1 (g.2.2.2.2.2.2 (i + 1))).1), q_u] [] h3 := by
    refine q_goto 2985 dL_law_2276 (by decide) ?_
    refine q_forget 6 ?_
    refine q_forget 7 ?_
    change q_W _ _ _ _ _ _ _ _ 2985 [.ref 0, .ref 100, .ref 215, .ref 223, .ref 224, .int (nI i), q_u, q_u, q_u] [] h3
    exact q_widen (by omega) (by omega) (K h3 ⟨_, _, _, _, _, _, _, _, _, _, _, _, _, _, _, _, _, _, _, _, _, _, w1.keep (q3.wide (by omega) (by omega)), ⟨_, ⟨_, _, _, _, _, _, _, _, _, m3⟩⟩, ⟨_, (q3.2 _ (by omega) (by omega)).trans c223b⟩, ⟨_, (q3.2 _ (by omega) (by omega)).trans c224b⟩, J2⟩)
  refine q_if_ne 2276 dL_law_2261 (by decide) (fun _ => fin) (fun b => ?_)
  have eo9 : (q_oI ((x_am_moveAt s.2.2.2.2.2.2.2.2.1 s.2.2.2.2.2.2.2.2.2.1 (g.2.2.2.2.2.2 (i + 1))))) = .inl (some (.int ((x_mo_moveAt al s.2.2.2.2.2.2.2.2.1 (g.2.2.2.2.2.2 (i + 1))).1))) := by
    rcases ag with ⟨et, eo⟩ | ⟨et, eo⟩
    · exact absurd (et.symm.trans b) (by decide)
    · exact eo
  have ev := hf2 _ eo9
  refine q_aload_n (by first | assumption | (rw [q_R0e]; omega)) dL_law_2264 rfl ?_
  refine q_iconst (v := 0) dL_law_2265 rfl ?_
  refine q_lald (f := f2) dL_law_2266 ((q3.2 _ (by omega) (by omega)).trans c223b) (vp_in_nI (n := 0) (N := 1) (by decide) (by decide)) ?_
  change q_W _ _ _ _ _ _ _ _ _ _ [.long (f2 0)] _
  rw [ev]
  refine q_iload dL_law_2267 rfl ?_
  refine q_i2l dL_law_2269 rfl ?_
  refine q_lcmp dL_law_2270 ?_
  rw [z_lcmp]
  exact q_if_eq 2276 dL_law_2271 (by decide) (fun _ => fin) (fun b => absurd rfl b)
set_option maxRecDepth 100000 in
set_option maxHeartbeats 4000000 in
theorem l_c_canMove {g : q_G} {h : q_H} {d mc ms kc ks i t : Nat} {Q : q_O → q_H → Prop} (hP : z_P_canMove) (hI : z_I t h) (ht : t < 512) (hi : i + 2 < g.2.2.2.2.2.1) (hN : g.2.2.2.2.2.1 < 2 ^ 31) (ho : q_isold g 0) (hd : 26 ≤ d) (hkc : kc + 66 ≤ mc) (hks : ks + 10588 ≤ ms) (K : ∀ h2, z_I (t + 1) h2 → q_W g mL_law d mc ms Q (kc + 66) (ks + 10588) 2985 [.ref 0, .ref 100, .ref 215, .ref 223, .ref 224, .int (nI i), q_u, q_u, q_u] [] h2) : q_W g mL_law d mc ms Q kc ks 2279 [.ref 0, .ref 100, .ref 215, .ref 223, .ref 224, .int (nI i), q_u, q_u, q_u] [] h := by
  obtain ⟨hs, se, sf, s, s1, nx, kp, rw, ic, fi, lc, fl, al, cg, sv, ad, ln, lz, ip, ty, ea, fa, wc, ⟨th, wm⟩, ⟨f, c223⟩, ⟨fd, c224⟩, J⟩ := hI
  obtain ⟨s2, ca, cj, co, won, lost, pf, cv, sc, pc, pp, po, vb, oa, ob, w⟩ := wc
  obtain ⟨rs, ac, rj, ro, bf, he, er, cm, cn, m⟩ := wm
  obtain ⟨e0, hn, e3, hm⟩ := J.n0
  obtain ⟨p0, ag, J2⟩ := hP t hs se sf s s1 nx kp rw ic fi lc fl al cg sv ad ln lz ip ty ea fa  (g.2.2.2.2.2.2 (i + 1)) ht J
  refine q_aload_n (by first | assumption | (rw [q_R0e]; omega)) dL_law_2279 rfl ?_
  refine q_aload_nO ho dL_law_2280 rfl ?_
  refine q_iload dL_law_2281 rfl ?_
  refine q_iconst (v := 1) dL_law_2283 rfl ?_
  refine q_iaddN (a := i) (b := 1) dL_law_2284 ?_
  refine q_taldIN (by decide) dL_law_2285 (rfl : q_ar g 0 = _) (by omega) hN ?_
  change q_W _ _ _ _ _ _ _ _ _ _ [.int (g.2.2.2.2.2.2 (i + 1)), .ref 100] _
  refine q_aload_n (by first | assumption | (rw [q_R0e]; omega)) dL_law_2286 rfl ?_
  have ho9 : (∃ v, (q_oB ((x_am_canMove s.1 s.2.1 s.2.2.2.2.2.1 s.2.2.2.2.2.2.2.2.1 s.2.2.2.2.2.2.2.2.2.1 (g.2.2.2.2.2.2 (i + 1))))) = .inl (some (.int (z_b v)))) ∨ (q_oB ((x_am_canMove s.1 s.2.1 s.2.2.2.2.2.1 s.2.2.2.2.2.2.2.2.1 s.2.2.2.2.2.2.2.2.2.1 (g.2.2.2.2.2.2 (i + 1))))) = .inr "java/util/NoSuchElementException" := by
    rcases ag with ⟨et, eo⟩ | ⟨et, eo⟩
    · exact Or.inr (eo)
    · exact Or.inl ⟨_, eo⟩
  have hcd : z_cd [("java/util/NoSuchElementException", 1)] (q_oB ((x_am_canMove s.1 s.2.1 s.2.2.2.2.2.1 s.2.2.2.2.2.2.2.2.1 s.2.2.2.2.2.2.2.2.2.1 (g.2.2.2.2.2.2 (i + 1))))) = (x_mo_canMove al s.1 s.2.2.2.2.2.2.2.2.1 (g.2.2.2.2.2.2 (i + 1))).2 := by
    rcases ag with ⟨et, eo⟩ | ⟨et, eo⟩
    · rw [et, eo]; rfl
    · rw [et, eo]; rfl
  have hB9 : ∀ h1, (z_C h1 hs se sf s s1 nx kp rw ic fi lc fl ∧ q_zone h h1 100 115) → h1.2 223 = some (.inl (4, 1, .inr (.inl f))) := fun h1 hb => (hb.2.2 _ (by omega) (by omega)).trans c223
  refine q_invSH (mc' := 3) (ms' := 18) (d' := d - 1) (as := [.ref 100, .int ((g.2.2.2.2.2.2 (i + 1))), .ref 223]) dL_law_2287 kM_L_canMove kL_L_315 kT_L_canMove rfl rfl rfl (Nat.le_of_ble_eq_true rfl) (by omega) (by decide) (by omega) (by omega) (e_L_canMove (d := d - 1) (dd := d - 2) w.1.c0 hB9 ho9 (c_canMove (g := g) (h := h) (d := d - 2) w (g.2.2.2.2.2.2 (i + 1)) (by omega)) (by omega)) (q_kC (fun h1 hB => ?_)) q_xC
  obtain ⟨h0, ⟨wc1, q1⟩, e9⟩ := hB
  obtain ⟨f2, c223b, hf2⟩ := z_outL_c (o := q_oB ((x_am_canMove s.1 s.2.1 s.2.2.2.2.2.1 s.2.2.2.2.2.2.2.2.1 s.2.2.2.2.2.2.2.2.2.1 (g.2.2.2.2.2.2 (i + 1))))) (hB9 h0 ⟨wc1, q1⟩)
  have qs : q_same h0 h1 223 1 := e9 ▸ z_outL_same
  rw [← e9] at c223b
  clear e9
  have hz : 225 ≤ h.1 := w.2.2.2.2.2.2.2.2.2.s0
  have hz0 : h.1 ≤ h0.1 := q1.1
  have c224b : h1.2 224 = _ := (qs.2 _ (by omega) (by omega)).trans ((q1.2 _ (by omega) (by omega)).trans c224)
  have w1 := wc1.keep (qs.wide (by omega) (by omega))
  have m1 := m.keepI (h1 := h1) (Nat.le_trans q1.1 qs.1) (fun j b1 b2 => (qs.2 j (by omega) (by omega)).trans (q1.2 j (by omega) (by omega)))
  clear wc1 hB9 ho9 m
  change q_W _ _ _ _ _ _ _ _ 2290 [.ref 0, .ref 100, .ref 215, .ref 223, .ref 224, .int (nI i), q_u, q_u, q_u] [.int (z_cd [("java/util/NoSuchElementException", 1)] (q_oB ((x_am_canMove s.1 s.2.1 s.2.2.2.2.2.1 s.2.2.2.2.2.2.2.2.1 s.2.2.2.2.2.2.2.2.2.1 (g.2.2.2.2.2.2 (i + 1))))))] h1
  rw [hcd]
  refine q_istore dL_law_2290 (by decide) rfl ?_
  change q_W _ _ _ _ _ _ _ _ 2292 [.ref 0, .ref 100, .ref 215, .ref 223, .ref 224, .int (nI i), .int ((x_mo_canMove al s.1 s.2.2.2.2.2.2.2.2.1 (g.2.2.2.2.2.2 (i + 1))).2), q_u, q_u] [] h1
  refine q_aload_n (by first | assumption | (rw [q_R0e]; omega)) dL_law_2292 rfl ?_
  refine q_aload_nO ho dL_law_2293 rfl ?_
  refine q_iload dL_law_2294 rfl ?_
  refine q_iconst (v := 1) dL_law_2296 rfl ?_
  refine q_iaddN (a := i) (b := 1) dL_law_2297 ?_
  refine q_taldIN (by decide) dL_law_2298 (rfl : q_ar g 0 = _) (by omega) hN ?_
  change q_W _ _ _ _ _ _ _ _ _ _ [.int (g.2.2.2.2.2.2 (i + 1)), .ref 215] _
  refine q_invV (mc' := 0) (ms' := 0) (d' := d - 1) (as := [.int ((g.2.2.2.2.2.2 (i + 1)))]) dL_law_2299 kM_X11_canMove kL_L_317 kI_X11_canMove kS_X11_canMove rfl (kC_X11.1) m1.c0 rfl rfl (Nat.le_of_ble_eq_true rfl) (by omega) (by decide) (by omega) (by omega) (r_canMove (g := g) (d := d - 1) m1 e0 hn e3 hm (g.2.2.2.2.2.2 (i + 1)) p0 (by omega)) (q_kC (fun h3 hB3 => ?_)) q_xC
  obtain ⟨m3, q3⟩ := hB3
  obtain ⟨rs3, ac3, rj3, ro3, bf3, he3, er3, cm3, cn3, m3⟩ := m3
  change q_W _ _ _ _ _ _ _ _ 2302 [.ref 0, .ref 100, .ref 215, .ref 223, .ref 224, .int (nI i), .int ((x_mo_canMove al s.1 s.2.2.2.2.2.2.2.2.1 (g.2.2.2.2.2.2 (i + 1))).2), q_u, q_u] [.int (z_b ((x_mo_canMove al s.1 s.2.2.2.2.2.2.2.2.1 (g.2.2.2.2.2.2 (i + 1))).1))] h3
  refine q_istore dL_law_2302 (by decide) rfl ?_
  change q_W _ _ _ _ _ _ _ _ 2304 [.ref 0, .ref 100, .ref 215, .ref 223, .ref 224, .int (nI i), .int ((x_mo_canMove al s.1 s.2.2.2.2.2.2.2.2.1 (g.2.2.2.2.2.2 (i + 1))).2), .int (z_b ((x_mo_canMove al s.1 s.2.2.2.2.2.2.2.2.1 (g.2.2.2.2.2.2 (i + 1))).1)), q_u] [] h3
  refine q_aload_n (by first | assumption | (rw [q_R0e]; omega)) dL_law_2304 rfl ?_
  refine q_invV (mc' := 0) (ms' := 0) (d' := d - 1) (as := []) dL_law_2305 kM_X11_thrown kL_L_166 kI_X11_thrown kS_X11_thrown rfl (kC_X11.1) m3.c0 rfl rfl (Nat.le_of_ble_eq_true rfl) (by omega) (by decide) (by omega) (by omega) (e_mo_thrownR (d := d - 1) m3 (by omega)) (q_kR ?_) q_xR
  change q_W _ _ _ _ _ _ _ _ 2308 [.ref 0, .ref 100, .ref 215, .ref 223, .ref 224, .int (nI i), .int ((x_mo_canMove al s.1 s.2.2.2.2.2.2.2.2.1 (g.2.2.2.2.2.2 (i + 1))).2), .int (z_b ((x_mo_canMove al s.1 s.2.2.2.2.2.2.2.2.1 (g.2.2.2.2.2.2 (i + 1))).1)), q_u] [.int ((x_mo_canMove al s.1 s.2.2.2.2.2.2.2.2.1 (g.2.2.2.2.2.2 (i + 1))).2)] h3
  refine q_iload dL_law_2308 rfl ?_
  refine q_icmp_eq 2315 dL_law_2310 (by decide) (fun _ => ?_) (fun b => absurd rfl b)
  refine q_iload dL_law_2315 rfl ?_
  have hz3 : h1.1 ≤ h3.1 := q3.1
  have hz4 : h0.1 ≤ h1.1 := qs.1
  have fin : q_W g mL_law d mc ms Q (kc + 3) (ks + 18) 2339 [.ref 0, .ref 100, .ref 215, .ref 223, .ref 224, .int (nI i), .int ((x_mo_canMove al s.1 s.2.2.2.2.2.2.2.2.1 (g.2.2.2.2.2.2 (i + 1))).2), .int (z_b ((x_mo_canMove al s.1 s.2.2.2.2.2.2.2.2.1 (g.2.2.2.2.2.2 (i + 1))).1)), q_u] [] h3 := by
    refine q_goto 2985 dL_law_2339 (by decide) ?_
    refine q_forget 6 ?_
    refine q_forget 7 ?_
    change q_W _ _ _ _ _ _ _ _ 2985 [.ref 0, .ref 100, .ref 215, .ref 223, .ref 224, .int (nI i), q_u, q_u, q_u] [] h3
    exact q_widen (by omega) (by omega) (K h3 ⟨_, _, _, _, _, _, _, _, _, _, _, _, _, _, _, _, _, _, _, _, _, _, w1.keep (q3.wide (by omega) (by omega)), ⟨_, ⟨_, _, _, _, _, _, _, _, _, m3⟩⟩, ⟨_, (q3.2 _ (by omega) (by omega)).trans c223b⟩, ⟨_, (q3.2 _ (by omega) (by omega)).trans c224b⟩, J2⟩)
  refine q_if_ne 2339 dL_law_2317 (by decide) (fun _ => fin) (fun b => ?_)
  have eo9 : (q_oB ((x_am_canMove s.1 s.2.1 s.2.2.2.2.2.1 s.2.2.2.2.2.2.2.2.1 s.2.2.2.2.2.2.2.2.2.1 (g.2.2.2.2.2.2 (i + 1))))) = .inl (some (.int (z_b ((x_mo_canMove al s.1 s.2.2.2.2.2.2.2.2.1 (g.2.2.2.2.2.2 (i + 1))).1)))) := by
    rcases ag with ⟨et, eo⟩ | ⟨et, eo⟩
    · exact absurd (et.symm.trans b) (by decide)
    · exact eo
  have ev := hf2 _ eo9
  refine q_aload_n (by first | assumption | (rw [q_R0e]; omega)) dL_law_2320 rfl ?_
  refine q_iconst (v := 0) dL_law_2321 rfl ?_
  refine q_lald (f := f2) dL_law_2322 ((q3.2 _ (by omega) (by omega)).trans c223b) (vp_in_nI (n := 0) (N := 1) (by decide) (by decide)) ?_
  change q_W _ _ _ _ _ _ _ _ _ _ [.long (f2 0)] _
  rw [ev]
  refine q_iload dL_law_2323 rfl ?_
  have hlc : q_W g mL_law d mc ms Q (kc + 3) (ks + 18) 2333 [.ref 0, .ref 100, .ref 215, .ref 223, .ref 224, .int (nI i), .int ((x_mo_canMove al s.1 s.2.2.2.2.2.2.2.2.1 (g.2.2.2.2.2.2 (i + 1))).2), .int (z_b ((x_mo_canMove al s.1 s.2.2.2.2.2.2.2.2.1 (g.2.2.2.2.2.2 (i + 1))).1)), q_u] [.long (z_b ((x_mo_canMove al s.1 s.2.2.2.2.2.2.2.2.1 (g.2.2.2.2.2.2 (i + 1))).1)).toInt64, .long (z_b ((x_mo_canMove al s.1 s.2.2.2.2.2.2.2.2.1 (g.2.2.2.2.2.2 (i + 1))).1)).toInt64] h3 := by
    refine q_lcmp dL_law_2333 ?_
    rw [z_lcmp]
    exact q_if_eq 2339 dL_law_2334 (by decide) (fun _ => fin) (fun b => absurd rfl b)
  revert hlc
  cases (x_mo_canMove al s.1 s.2.2.2.2.2.2.2.2.1 (g.2.2.2.2.2.2 (i + 1))).1 with
  | false =>
    intro hlc
    refine q_if_eq 2332 dL_law_2325 (by decide) (fun _ => ?_) (fun b => absurd rfl b)
    exact q_lconst (v := 0) dL_law_2332 (by decide) hlc
  | true =>
    intro hlc
    refine q_if_eq 2332 dL_law_2325 (by decide) (fun b => absurd b (by decide)) (fun _ => ?_)
    refine q_lconst (v := 1) dL_law_2328 (by decide) ?_
    exact q_goto 2333 dL_law_2329 (by decide) hlc
set_option maxRecDepth 100000 in
set_option maxHeartbeats 4000000 in
theorem l_c_dialogueTotal {g : q_G} {h : q_H} {d mc ms kc ks i t : Nat} {Q : q_O → q_H → Prop} (hP : z_P_dialogueTotal) (hI : z_I t h) (ht : t < 512) (hi : i + 2 < g.2.2.2.2.2.1) (hN : g.2.2.2.2.2.1 < 2 ^ 31) (ho : q_isold g 0) (hd : 26 ≤ d) (hkc : kc + 66 ≤ mc) (hks : ks + 10588 ≤ ms) (K : ∀ h2, z_I (t + 1) h2 → q_W g mL_law d mc ms Q (kc + 66) (ks + 10588) 2985 [.ref 0, .ref 100, .ref 215, .ref 223, .ref 224, .int (nI i), q_u, q_u, q_u] [] h2) : q_W g mL_law d mc ms Q kc ks 2342 [.ref 0, .ref 100, .ref 215, .ref 223, .ref 224, .int (nI i), q_u, q_u, q_u] [] h := by
  obtain ⟨hs, se, sf, s, s1, nx, kp, rw, ic, fi, lc, fl, al, cg, sv, ad, ln, lz, ip, ty, ea, fa, wc, ⟨th, wm⟩, ⟨f, c223⟩, ⟨fd, c224⟩, J⟩ := hI
  obtain ⟨s2, ca, cj, co, won, lost, pf, cv, sc, pc, pp, po, vb, oa, ob, w⟩ := wc
  obtain ⟨rs, ac, rj, ro, bf, he, er, cm, cn, m⟩ := wm
  obtain ⟨e0, hn, e3, hm⟩ := J.n0
  obtain ⟨ag, J2⟩ := hP t hs se sf s s1 nx kp rw ic fi lc fl al cg sv ad ln lz ip ty ea fa   ht J
  refine q_aload_n (by first | assumption | (rw [q_R0e]; omega)) dL_law_2342 rfl ?_
  refine q_invV (mc' := 0) (ms' := 0) (d' := d - 1) (as := []) dL_law_2343 kM_X10_dialogueTotal kL_L_318 kI_X10_dialogueTotal kS_X10_dialogueTotal rfl (kC_X10.1) w.1.c0 rfl rfl (Nat.le_of_ble_eq_true rfl) (by omega) (by decide) (by omega) (by omega) (c_dialogueTotal (g := g) (h := h) (d := d - 1) w (by omega)) (q_kC (fun h1 hB => ?_)) q_xC
  obtain ⟨w1, q1⟩ := hB
  have hz : 225 ≤ h.1 := w.2.2.2.2.2.2.2.2.2.s0
  have hz0 : h.1 ≤ h1.1 := q1.1
  have m1 := m.keepI (h1 := h1) q1.1 (fun j b1 b2 => q1.2 j (by omega) (by omega))
  have c223b := (q1.2 _ (by omega) (by omega)).trans c223
  have c224b := (q1.2 _ (by omega) (by omega)).trans c224
  change q_W _ _ _ _ _ _ _ _ 2346 [.ref 0, .ref 100, .ref 215, .ref 223, .ref 224, .int (nI i), q_u, q_u, q_u] [.int ((x_am_dialogueTotal s.2.2.2.2.2.2.2.2.2.2.1))] h1
  rw [ag]
  refine q_aload_n (by first | assumption | (rw [q_R0e]; omega)) dL_law_2346 rfl ?_
  refine q_invV (mc' := 0) (ms' := 0) (d' := d - 1) (as := []) dL_law_2347 kM_X11_dialogueTotal kL_L_321 kI_X11_dialogueTotal kS_X11_dialogueTotal rfl (kC_X11.1) m1.c0 rfl rfl (Nat.le_of_ble_eq_true rfl) (by omega) (by decide) (by omega) (by omega) (r_dialogueTotal (g := g) (d := d - 1) m1 e0 hn e3 hm (by omega)) (q_kC (fun h3 hB3 => ?_)) q_xC
  obtain ⟨m3, q3⟩ := hB3
  change q_W _ _ _ _ _ _ _ _ 2350 [.ref 0, .ref 100, .ref 215, .ref 223, .ref 224, .int (nI i), q_u, q_u, q_u] [.int ((x_mo_dialogueTotal al).1), .int ((x_mo_dialogueTotal al).1)] h3
  refine q_icmp_eq 2985 dL_law_2350 (by decide) (fun _ => ?_) (fun b => absurd rfl b)
  exact q_widen (by omega) (by omega) (K h3 ⟨_, _, _, _, _, _, _, _, _, _, _, _, _, _, _, _, _, _, _, _, _, _, w1.keep (q3.wide (by omega) (by omega)), ⟨_, m3⟩, ⟨_, (q3.2 _ (by omega) (by omega)).trans c223b⟩, ⟨_, (q3.2 _ (by omega) (by omega)).trans c224b⟩, J2⟩)
set_option maxRecDepth 100000 in
set_option maxHeartbeats 4000000 in
theorem l_c_proponentWins {g : q_G} {h : q_H} {d mc ms kc ks i t : Nat} {Q : q_O → q_H → Prop} (hP : z_P_proponentWins) (hI : z_I t h) (ht : t < 512) (hi : i + 2 < g.2.2.2.2.2.1) (hN : g.2.2.2.2.2.1 < 2 ^ 31) (ho : q_isold g 0) (hd : 26 ≤ d) (hkc : kc + 66 ≤ mc) (hks : ks + 10588 ≤ ms) (K : ∀ h2, z_I (t + 1) h2 → q_W g mL_law d mc ms Q (kc + 66) (ks + 10588) 2985 [.ref 0, .ref 100, .ref 215, .ref 223, .ref 224, .int (nI i), q_u, q_u, q_u] [] h2) : q_W g mL_law d mc ms Q kc ks 2355 [.ref 0, .ref 100, .ref 215, .ref 223, .ref 224, .int (nI i), q_u, q_u, q_u] [] h := by
  obtain ⟨hs, se, sf, s, s1, nx, kp, rw, ic, fi, lc, fl, al, cg, sv, ad, ln, lz, ip, ty, ea, fa, wc, ⟨th, wm⟩, ⟨f, c223⟩, ⟨fd, c224⟩, J⟩ := hI
  obtain ⟨s2, ca, cj, co, won, lost, pf, cv, sc, pc, pp, po, vb, oa, ob, w⟩ := wc
  obtain ⟨rs, ac, rj, ro, bf, he, er, cm, cn, m⟩ := wm
  obtain ⟨e0, hn, e3, hm⟩ := J.n0
  obtain ⟨ag, J2⟩ := hP t hs se sf s s1 nx kp rw ic fi lc fl al cg sv ad ln lz ip ty ea fa   ht J
  refine q_aload_n (by first | assumption | (rw [q_R0e]; omega)) dL_law_2355 rfl ?_
  refine q_invV (mc' := 0) (ms' := 0) (d' := d - 1) (as := []) dL_law_2356 kM_X10_proponentWins kL_L_322 kI_X10_proponentWins kS_X10_proponentWins rfl (kC_X10.1) w.1.c0 rfl rfl (Nat.le_of_ble_eq_true rfl) (by omega) (by decide) (by omega) (by omega) (c_proponentWins (g := g) (h := h) (d := d - 1) w (by omega)) (q_kC (fun h1 hB => ?_)) q_xC
  obtain ⟨w1, q1⟩ := hB
  have hz : 225 ≤ h.1 := w.2.2.2.2.2.2.2.2.2.s0
  have hz0 : h.1 ≤ h1.1 := q1.1
  have m1 := m.keepI (h1 := h1) q1.1 (fun j b1 b2 => q1.2 j (by omega) (by omega))
  have c223b := (q1.2 _ (by omega) (by omega)).trans c223
  have c224b := (q1.2 _ (by omega) (by omega)).trans c224
  change q_W _ _ _ _ _ _ _ _ 2359 [.ref 0, .ref 100, .ref 215, .ref 223, .ref 224, .int (nI i), q_u, q_u, q_u] [.int ((x_am_proponentWins s.2.2.2.2.2.2.2.2.2.2.2.1))] h1
  rw [ag]
  refine q_aload_n (by first | assumption | (rw [q_R0e]; omega)) dL_law_2359 rfl ?_
  refine q_invV (mc' := 0) (ms' := 0) (d' := d - 1) (as := []) dL_law_2360 kM_X11_proponentWins kL_L_325 kI_X11_proponentWins kS_X11_proponentWins rfl (kC_X11.1) m1.c0 rfl rfl (Nat.le_of_ble_eq_true rfl) (by omega) (by decide) (by omega) (by omega) (r_proponentWins (g := g) (d := d - 1) m1 e0 hn e3 hm (by omega)) (q_kC (fun h3 hB3 => ?_)) q_xC
  obtain ⟨m3, q3⟩ := hB3
  change q_W _ _ _ _ _ _ _ _ 2363 [.ref 0, .ref 100, .ref 215, .ref 223, .ref 224, .int (nI i), q_u, q_u, q_u] [.int ((x_mo_proponentWins al).1), .int ((x_mo_proponentWins al).1)] h3
  refine q_icmp_eq 2985 dL_law_2363 (by decide) (fun _ => ?_) (fun b => absurd rfl b)
  exact q_widen (by omega) (by omega) (K h3 ⟨_, _, _, _, _, _, _, _, _, _, _, _, _, _, _, _, _, _, _, _, _, _, w1.keep (q3.wide (by omega) (by omega)), ⟨_, m3⟩, ⟨_, (q3.2 _ (by omega) (by omega)).trans c223b⟩, ⟨_, (q3.2 _ (by omega) (by omega)).trans c224b⟩, J2⟩)
set_option maxRecDepth 100000 in
set_option maxHeartbeats 4000000 in
theorem l_c_brokenOffTotal {g : q_G} {h : q_H} {d mc ms kc ks i t : Nat} {Q : q_O → q_H → Prop} (hP : z_P_brokenOffTotal) (hI : z_I t h) (ht : t < 512) (hi : i + 2 < g.2.2.2.2.2.1) (hN : g.2.2.2.2.2.1 < 2 ^ 31) (ho : q_isold g 0) (hd : 26 ≤ d) (hkc : kc + 66 ≤ mc) (hks : ks + 10588 ≤ ms) (K : ∀ h2, z_I (t + 1) h2 → q_W g mL_law d mc ms Q (kc + 66) (ks + 10588) 2985 [.ref 0, .ref 100, .ref 215, .ref 223, .ref 224, .int (nI i), q_u, q_u, q_u] [] h2) : q_W g mL_law d mc ms Q kc ks 2368 [.ref 0, .ref 100, .ref 215, .ref 223, .ref 224, .int (nI i), q_u, q_u, q_u] [] h := by
  obtain ⟨hs, se, sf, s, s1, nx, kp, rw, ic, fi, lc, fl, al, cg, sv, ad, ln, lz, ip, ty, ea, fa, wc, ⟨th, wm⟩, ⟨f, c223⟩, ⟨fd, c224⟩, J⟩ := hI
  obtain ⟨s2, ca, cj, co, won, lost, pf, cv, sc, pc, pp, po, vb, oa, ob, w⟩ := wc
  obtain ⟨rs, ac, rj, ro, bf, he, er, cm, cn, m⟩ := wm
  obtain ⟨e0, hn, e3, hm⟩ := J.n0
  obtain ⟨ag, J2⟩ := hP t hs se sf s s1 nx kp rw ic fi lc fl al cg sv ad ln lz ip ty ea fa   ht J
  refine q_aload_n (by first | assumption | (rw [q_R0e]; omega)) dL_law_2368 rfl ?_
  refine q_invV (mc' := 0) (ms' := 0) (d' := d - 1) (as := []) dL_law_2369 kM_X10_brokenOffTotal kL_L_326 kI_X10_brokenOffTotal kS_X10_brokenOffTotal rfl (kC_X10.1) w.1.c0 rfl rfl (Nat.le_of_ble_eq_true rfl) (by omega) (by decide) (by omega) (by omega) (c_brokenOffTotal (g := g) (h := h) (d := d - 1) w (by omega)) (q_kC (fun h1 hB => ?_)) q_xC
  obtain ⟨w1, q1⟩ := hB
  have hz : 225 ≤ h.1 := w.2.2.2.2.2.2.2.2.2.s0
  have hz0 : h.1 ≤ h1.1 := q1.1
  have m1 := m.keepI (h1 := h1) q1.1 (fun j b1 b2 => q1.2 j (by omega) (by omega))
  have c223b := (q1.2 _ (by omega) (by omega)).trans c223
  have c224b := (q1.2 _ (by omega) (by omega)).trans c224
  change q_W _ _ _ _ _ _ _ _ 2372 [.ref 0, .ref 100, .ref 215, .ref 223, .ref 224, .int (nI i), q_u, q_u, q_u] [.int ((x_am_brokenOffTotal s.2.2.2.2.2.2.2.2.2.2.2.2))] h1
  rw [ag]
  refine q_aload_n (by first | assumption | (rw [q_R0e]; omega)) dL_law_2372 rfl ?_
  refine q_invV (mc' := 0) (ms' := 0) (d' := d - 1) (as := []) dL_law_2373 kM_X11_brokenOffTotal kL_L_329 kI_X11_brokenOffTotal kS_X11_brokenOffTotal rfl (kC_X11.1) m1.c0 rfl rfl (Nat.le_of_ble_eq_true rfl) (by omega) (by decide) (by omega) (by omega) (r_brokenOffTotal (g := g) (d := d - 1) m1 e0 hn e3 hm (by omega)) (q_kC (fun h3 hB3 => ?_)) q_xC
  obtain ⟨m3, q3⟩ := hB3
  change q_W _ _ _ _ _ _ _ _ 2376 [.ref 0, .ref 100, .ref 215, .ref 223, .ref 224, .int (nI i), q_u, q_u, q_u] [.int ((x_mo_brokenOffTotal al).1), .int ((x_mo_brokenOffTotal al).1)] h3
  refine q_icmp_eq 2985 dL_law_2376 (by decide) (fun _ => ?_) (fun b => absurd rfl b)
  exact q_widen (by omega) (by omega) (K h3 ⟨_, _, _, _, _, _, _, _, _, _, _, _, _, _, _, _, _, _, _, _, _, _, w1.keep (q3.wide (by omega) (by omega)), ⟨_, m3⟩, ⟨_, (q3.2 _ (by omega) (by omega)).trans c223b⟩, ⟨_, (q3.2 _ (by omega) (by omega)).trans c224b⟩, J2⟩)
set_option maxRecDepth 100000 in
set_option maxHeartbeats 4000000 in
theorem l_c_meanStrength {g : q_G} {h : q_H} {d mc ms kc ks i t : Nat} {Q : q_O → q_H → Prop} (hP : z_P_meanStrength) (hI : z_I t h) (ht : t < 512) (hi : i + 2 < g.2.2.2.2.2.1) (hN : g.2.2.2.2.2.1 < 2 ^ 31) (ho : q_isold g 0) (hd : 26 ≤ d) (hkc : kc + 66 ≤ mc) (hks : ks + 10588 ≤ ms) (K : ∀ h2, z_I (t + 1) h2 → q_W g mL_law d mc ms Q (kc + 66) (ks + 10588) 2985 [.ref 0, .ref 100, .ref 215, .ref 223, .ref 224, .int (nI i), q_u, q_u, q_u] [] h2) : q_W g mL_law d mc ms Q kc ks 2381 [.ref 0, .ref 100, .ref 215, .ref 223, .ref 224, .int (nI i), q_u, q_u, q_u] [] h := by
  obtain ⟨hs, se, sf, s, s1, nx, kp, rw, ic, fi, lc, fl, al, cg, sv, ad, ln, lz, ip, ty, ea, fa, wc, ⟨th, wm⟩, ⟨f, c223⟩, ⟨fd, c224⟩, J⟩ := hI
  obtain ⟨s2, ca, cj, co, won, lost, pf, cv, sc, pc, pp, po, vb, oa, ob, w⟩ := wc
  obtain ⟨rs, ac, rj, ro, bf, he, er, cm, cn, m⟩ := wm
  obtain ⟨e0, hn, e3, hm⟩ := J.n0
  obtain ⟨p0, p1, ag, J2⟩ := hP t hs se sf s s1 nx kp rw ic fi lc fl al cg sv ad ln lz ip ty ea fa   ht J
  refine q_aload_n (by first | assumption | (rw [q_R0e]; omega)) dL_law_2381 rfl ?_
  refine q_aload (by first | assumption | (rw [q_R0e]; omega)) dL_law_2382 rfl ?_
  have ho9 : (∃ v, (q_oD ((x_am_meanStrength s.1 s.2.2.1 s.2.2.2.1))) = .inl (some (.double v))) ∨ (q_oD ((x_am_meanStrength s.1 s.2.2.1 s.2.2.2.1))) = .inr "java/lang/ArithmeticException" := by
    rcases ag with ⟨et, eo⟩ | ⟨et, eo⟩
    · exact Or.inr (eo)
    · exact Or.inl ⟨_, eo⟩
  have hcd : z_cd [("java/lang/ArithmeticException", 1)] (q_oD ((x_am_meanStrength s.1 s.2.2.1 s.2.2.2.1))) = (x_mo_meanStrength al s.1).2 := by
    rcases ag with ⟨et, eo⟩ | ⟨et, eo⟩
    · rw [et, eo]; rfl
    · rw [et, eo]; rfl
  have hB9 : ∀ h1, (z_C h1 hs se sf s s1 nx kp rw ic fi lc fl ∧ q_zone h h1 100 115) → h1.2 224 = some (.inl (5, 1, .inr (.inr (.inr (.inl fd))))) := fun h1 hb => (hb.2.2 _ (by omega) (by omega)).trans c224
  refine q_invSH (mc' := 1) (ms' := 6) (d' := d - 1) (as := [.ref 100, .ref 224]) dL_law_2384 kM_L_meanStrength kL_L_330 kT_L_meanStrength rfl rfl rfl (Nat.le_of_ble_eq_true rfl) (by omega) (by decide) (by omega) (by omega) (e_L_meanStrength (d := d - 1) (dd := d - 2) w.1.c0 hB9 ho9 (c_meanStrength (g := g) (h := h) (d := d - 2) w p0 (by omega)) (by omega)) (q_kC (fun h1 hB => ?_)) q_xC
  obtain ⟨h0, ⟨wc1, q1⟩, e9⟩ := hB
  obtain ⟨f2, c224b, hf2⟩ := z_outD_c (o := q_oD ((x_am_meanStrength s.1 s.2.2.1 s.2.2.2.1))) (hB9 h0 ⟨wc1, q1⟩)
  have qs : q_same h0 h1 224 1 := e9 ▸ z_outD_same
  rw [← e9] at c224b
  clear e9
  have hz : 225 ≤ h.1 := w.2.2.2.2.2.2.2.2.2.s0
  have hz0 : h.1 ≤ h0.1 := q1.1
  have c223b : h1.2 223 = _ := (qs.2 _ (by omega) (by omega)).trans ((q1.2 _ (by omega) (by omega)).trans c223)
  have w1 := wc1.keep (qs.wide (by omega) (by omega))
  have m1 := m.keepI (h1 := h1) (Nat.le_trans q1.1 qs.1) (fun j b1 b2 => (qs.2 j (by omega) (by omega)).trans (q1.2 j (by omega) (by omega)))
  clear wc1 hB9 ho9 m
  change q_W _ _ _ _ _ _ _ _ 2387 [.ref 0, .ref 100, .ref 215, .ref 223, .ref 224, .int (nI i), q_u, q_u, q_u] [.int (z_cd [("java/lang/ArithmeticException", 1)] (q_oD ((x_am_meanStrength s.1 s.2.2.1 s.2.2.2.1))))] h1
  rw [hcd]
  refine q_istore dL_law_2387 (by decide) rfl ?_
  change q_W _ _ _ _ _ _ _ _ 2389 [.ref 0, .ref 100, .ref 215, .ref 223, .ref 224, .int (nI i), .int ((x_mo_meanStrength al s.1).2), q_u, q_u] [] h1
  refine q_aload_n (by first | assumption | (rw [q_R0e]; omega)) dL_law_2389 rfl ?_
  refine q_invV (mc' := 0) (ms' := 0) (d' := d - 1) (as := []) dL_law_2390 kM_X11_meanStrength kL_L_333 kI_X11_meanStrength kS_X11_meanStrength rfl (kC_X11.1) m1.c0 rfl rfl (Nat.le_of_ble_eq_true rfl) (by omega) (by decide) (by omega) (by omega) (r_meanStrength (g := g) (d := d - 1) m1 e0 hn e3 hm p1 (by omega)) (q_kC (fun h3 hB3 => ?_)) q_xC
  obtain ⟨m3, q3⟩ := hB3
  obtain ⟨rs3, ac3, rj3, ro3, bf3, he3, er3, cm3, cn3, m3⟩ := m3
  change q_W _ _ _ _ _ _ _ _ 2393 [.ref 0, .ref 100, .ref 215, .ref 223, .ref 224, .int (nI i), .int ((x_mo_meanStrength al s.1).2), q_u, q_u] [.double ((x_mo_meanStrength al s.1).1)] h3
  refine q_dstore dL_law_2393 (by decide) rfl ?_
  change q_W _ _ _ _ _ _ _ _ 2395 [.ref 0, .ref 100, .ref 215, .ref 223, .ref 224, .int (nI i), .int ((x_mo_meanStrength al s.1).2), .double ((x_mo_meanStrength al s.1).1), q_u] [] h3
  refine q_aload_n (by first | assumption | (rw [q_R0e]; omega)) dL_law_2395 rfl ?_
  refine q_invV (mc' := 0) (ms' := 0) (d' := d - 1) (as := []) dL_law_2396 kM_X11_thrown kL_L_166 kI_X11_thrown kS_X11_thrown rfl (kC_X11.1) m3.c0 rfl rfl (Nat.le_of_ble_eq_true rfl) (by omega) (by decide) (by omega) (by omega) (e_mo_thrownR (d := d - 1) m3 (by omega)) (q_kR ?_) q_xR
  change q_W _ _ _ _ _ _ _ _ 2399 [.ref 0, .ref 100, .ref 215, .ref 223, .ref 224, .int (nI i), .int ((x_mo_meanStrength al s.1).2), .double ((x_mo_meanStrength al s.1).1), q_u] [.int ((x_mo_meanStrength al s.1).2)] h3
  refine q_iload dL_law_2399 rfl ?_
  refine q_icmp_eq 2406 dL_law_2401 (by decide) (fun _ => ?_) (fun b => absurd rfl b)
  refine q_iload dL_law_2406 rfl ?_
  have hz3 : h1.1 ≤ h3.1 := q3.1
  have hz4 : h0.1 ≤ h1.1 := qs.1
  have fin : q_W g mL_law d mc ms Q (kc + 1) (ks + 6) 2443 [.ref 0, .ref 100, .ref 215, .ref 223, .ref 224, .int (nI i), .int ((x_mo_meanStrength al s.1).2), .double ((x_mo_meanStrength al s.1).1), q_u] [] h3 := by
    refine q_goto 2985 dL_law_2443 (by decide) ?_
    refine q_forget 6 ?_
    refine q_forget 7 ?_
    change q_W _ _ _ _ _ _ _ _ 2985 [.ref 0, .ref 100, .ref 215, .ref 223, .ref 224, .int (nI i), q_u, q_u, q_u] [] h3
    exact q_widen (by omega) (by omega) (K h3 ⟨_, _, _, _, _, _, _, _, _, _, _, _, _, _, _, _, _, _, _, _, _, _, w1.keep (q3.wide (by omega) (by omega)), ⟨_, ⟨_, _, _, _, _, _, _, _, _, m3⟩⟩, ⟨_, (q3.2 _ (by omega) (by omega)).trans c223b⟩, ⟨_, (q3.2 _ (by omega) (by omega)).trans c224b⟩, J2⟩)
  refine q_if_ne 2443 dL_law_2408 (by decide) (fun _ => fin) (fun b => ?_)
  have eo9 : (q_oD ((x_am_meanStrength s.1 s.2.2.1 s.2.2.2.1))) = .inl (some (.double ((x_mo_meanStrength al s.1).1))) := by
    rcases ag with ⟨et, eo⟩ | ⟨et, eo⟩
    · exact absurd (et.symm.trans b) (by decide)
    · exact eo
  have ev := hf2.1 _ eo9
  refine q_aload (by first | assumption | (rw [q_R0e]; omega)) dL_law_2411 rfl ?_
  refine q_iconst (v := 0) dL_law_2413 rfl ?_
  refine q_dald (f := f2) dL_law_2414 ((q3.2 _ (by omega) (by omega)).trans c224b) (vp_in_nI (n := 0) (N := 1) (by decide) (by decide)) ?_
  change q_W _ _ _ _ _ _ _ _ _ _ (.double (f2 0) :: _) _
  rw [ev]
  refine q_dload dL_law_2415 rfl ?_
  refine q_dcmp dL_law_2417 ?_
  refine q_if_eq 2443 dL_law_2418 (by decide) (fun _ => fin) (fun b => ?_)
  refine q_aload (by first | assumption | (rw [q_R0e]; omega)) dL_law_2421 rfl ?_
  refine q_iconst (v := 0) dL_law_2423 rfl ?_
  refine q_dald (f := f2) dL_law_2424 ((q3.2 _ (by omega) (by omega)).trans c224b) (vp_in_nI (n := 0) (N := 1) (by decide) (by decide)) ?_
  change q_W _ _ _ _ _ _ _ _ _ _ (.double (f2 0) :: _) _
  rw [ev]
  refine q_aload (by first | assumption | (rw [q_R0e]; omega)) dL_law_2425 rfl ?_
  refine q_iconst (v := 0) dL_law_2427 rfl ?_
  refine q_dald (f := f2) dL_law_2428 ((q3.2 _ (by omega) (by omega)).trans c224b) (vp_in_nI (n := 0) (N := 1) (by decide) (by decide)) ?_
  change q_W _ _ _ _ _ _ _ _ _ _ (.double (f2 0) :: _) _
  rw [ev]
  refine q_dcmp dL_law_2429 ?_
  refine q_if_eq 2441 dL_law_2430 (by decide) (fun b2 => absurd b2 b) (fun _ => ?_)
  refine q_dload dL_law_2433 rfl ?_
  refine q_dload dL_law_2435 rfl ?_
  refine q_dcmp dL_law_2437 ?_
  exact q_if_ne 2443 dL_law_2438 (by decide) (fun _ => fin) (fun b2 => absurd b2 b)
set_option maxRecDepth 100000 in
set_option maxHeartbeats 4000000 in
theorem l_c_acceptedShare {g : q_G} {h : q_H} {d mc ms kc ks i t : Nat} {Q : q_O → q_H → Prop} (hP : z_P_acceptedShare) (hI : z_I t h) (ht : t < 512) (hi : i + 2 < g.2.2.2.2.2.1) (hN : g.2.2.2.2.2.1 < 2 ^ 31) (ho : q_isold g 0) (hd : 26 ≤ d) (hkc : kc + 66 ≤ mc) (hks : ks + 10588 ≤ ms) (K : ∀ h2, z_I (t + 1) h2 → q_W g mL_law d mc ms Q (kc + 66) (ks + 10588) 2985 [.ref 0, .ref 100, .ref 215, .ref 223, .ref 224, .int (nI i), q_u, q_u, q_u] [] h2) : q_W g mL_law d mc ms Q kc ks 2446 [.ref 0, .ref 100, .ref 215, .ref 223, .ref 224, .int (nI i), q_u, q_u, q_u] [] h := by
  obtain ⟨hs, se, sf, s, s1, nx, kp, rw, ic, fi, lc, fl, al, cg, sv, ad, ln, lz, ip, ty, ea, fa, wc, ⟨th, wm⟩, ⟨f, c223⟩, ⟨fd, c224⟩, J⟩ := hI
  obtain ⟨s2, ca, cj, co, won, lost, pf, cv, sc, pc, pp, po, vb, oa, ob, w⟩ := wc
  obtain ⟨rs, ac, rj, ro, bf, he, er, cm, cn, m⟩ := wm
  obtain ⟨e0, hn, e3, hm⟩ := J.n0
  obtain ⟨p0, p1, hshare, ag, J2⟩ := hP t hs se sf s s1 nx kp rw ic fi lc fl al cg sv ad ln lz ip ty ea fa ca cj co ro  ht J
  refine q_aload_n (by first | assumption | (rw [q_R0e]; omega)) dL_law_2446 rfl ?_
  refine q_aload (by first | assumption | (rw [q_R0e]; omega)) dL_law_2447 rfl ?_
  have ho9 : (∃ v, (q_oF ((x_am_acceptedShare s.1 s.2.2.2.2.2.1 ca cj co).1)) = .inl (some (.float v)) ∧ vf_n64 (FP.f2d v)) ∨ (q_oF ((x_am_acceptedShare s.1 s.2.2.2.2.2.1 ca cj co).1)) = .inr "java/lang/ArithmeticException" := by
    rcases ag with ⟨et, eo⟩ | ⟨et, eo⟩
    · exact Or.inr (eo)
    · exact Or.inl ⟨_, eo, (hshare _ eo).1⟩
  have hcd : z_cd [("java/lang/ArithmeticException", 1)] (q_oF ((x_am_acceptedShare s.1 s.2.2.2.2.2.1 ca cj co).1)) = (x_mo_acceptedShare al ro s.1).2.1 := by
    rcases ag with ⟨et, eo⟩ | ⟨et, eo⟩
    · rw [et, eo]; rfl
    · rw [et, eo]; rfl
  have hB9 : ∀ h1, (z_C h1 hs se sf s s1 nx kp rw ic fi lc fl ∧ q_zone h h1 100 115) → h1.2 224 = some (.inl (5, 1, .inr (.inr (.inr (.inl fd))))) := fun h1 hb => (hb.2.2 _ (by omega) (by omega)).trans c224
  refine q_invSH (mc' := 1) (ms' := 6) (d' := d - 1) (as := [.ref 100, .ref 224]) dL_law_2449 kM_L_acceptedShare kL_L_334 kT_L_acceptedShare rfl rfl rfl (Nat.le_of_ble_eq_true rfl) (by omega) (by decide) (by omega) (by omega) (e_L_acceptedShare (d := d - 1) (dd := d - 2) w.1.c0 hB9 ho9 (c_acceptedShare (g := g) (h := h) (d := d - 2) w p0 (by omega)) (by omega)) (q_kC (fun h1 hB => ?_)) q_xC
  obtain ⟨h0, ⟨wc1, q1⟩, e9⟩ := hB
  obtain ⟨f2, c224b, hf2⟩ := z_outD_c (o := q_oF ((x_am_acceptedShare s.1 s.2.2.2.2.2.1 ca cj co).1)) (hB9 h0 ⟨wc1, q1⟩)
  have qs : q_same h0 h1 224 1 := e9 ▸ z_outD_same
  rw [← e9] at c224b
  clear e9
  have hz : 225 ≤ h.1 := w.2.2.2.2.2.2.2.2.2.s0
  have hz0 : h.1 ≤ h0.1 := q1.1
  have c223b : h1.2 223 = _ := (qs.2 _ (by omega) (by omega)).trans ((q1.2 _ (by omega) (by omega)).trans c223)
  have w1 := wc1.keep (qs.wide (by omega) (by omega))
  have m1 := m.keepI (h1 := h1) (Nat.le_trans q1.1 qs.1) (fun j b1 b2 => (qs.2 j (by omega) (by omega)).trans (q1.2 j (by omega) (by omega)))
  clear wc1 hB9 ho9 m
  change q_W _ _ _ _ _ _ _ _ 2452 [.ref 0, .ref 100, .ref 215, .ref 223, .ref 224, .int (nI i), q_u, q_u, q_u] [.int (z_cd [("java/lang/ArithmeticException", 1)] (q_oF ((x_am_acceptedShare s.1 s.2.2.2.2.2.1 ca cj co).1)))] h1
  rw [hcd]
  refine q_istore dL_law_2452 (by decide) rfl ?_
  change q_W _ _ _ _ _ _ _ _ 2454 [.ref 0, .ref 100, .ref 215, .ref 223, .ref 224, .int (nI i), .int ((x_mo_acceptedShare al ro s.1).2.1), q_u, q_u] [] h1
  refine q_aload_n (by first | assumption | (rw [q_R0e]; omega)) dL_law_2454 rfl ?_
  refine q_invV (mc' := 0) (ms' := 0) (d' := d - 1) (as := []) dL_law_2455 kM_X11_acceptedShare kL_L_336 kI_X11_acceptedShare kS_X11_acceptedShare rfl (kC_X11.1) m1.c0 rfl rfl (Nat.le_of_ble_eq_true rfl) (by omega) (by decide) (by omega) (by omega) (r_acceptedShare (g := g) (d := d - 1) m1 e0 hn e3 hm p1 (by omega)) (q_kC (fun h3 hB3 => ?_)) q_xC
  obtain ⟨m3, q3⟩ := hB3
  obtain ⟨rs3, ac3, rj3, ro3, bf3, he3, er3, cm3, cn3, m3⟩ := m3
  change q_W _ _ _ _ _ _ _ _ 2458 [.ref 0, .ref 100, .ref 215, .ref 223, .ref 224, .int (nI i), .int ((x_mo_acceptedShare al ro s.1).2.1), q_u, q_u] [.float ((x_mo_acceptedShare al ro s.1).1)] h3
  refine q_fstore dL_law_2458 (by decide) rfl ?_
  change q_W _ _ _ _ _ _ _ _ 2460 [.ref 0, .ref 100, .ref 215, .ref 223, .ref 224, .int (nI i), .int ((x_mo_acceptedShare al ro s.1).2.1), .float ((x_mo_acceptedShare al ro s.1).1), q_u] [] h3
  refine q_aload_n (by first | assumption | (rw [q_R0e]; omega)) dL_law_2460 rfl ?_
  refine q_invV (mc' := 0) (ms' := 0) (d' := d - 1) (as := []) dL_law_2461 kM_X11_thrown kL_L_166 kI_X11_thrown kS_X11_thrown rfl (kC_X11.1) m3.c0 rfl rfl (Nat.le_of_ble_eq_true rfl) (by omega) (by decide) (by omega) (by omega) (e_mo_thrownR (d := d - 1) m3 (by omega)) (q_kR ?_) q_xR
  change q_W _ _ _ _ _ _ _ _ 2464 [.ref 0, .ref 100, .ref 215, .ref 223, .ref 224, .int (nI i), .int ((x_mo_acceptedShare al ro s.1).2.1), .float ((x_mo_acceptedShare al ro s.1).1), q_u] [.int ((x_mo_acceptedShare al ro s.1).2.1)] h3
  refine q_iload dL_law_2464 rfl ?_
  refine q_icmp_eq 2471 dL_law_2466 (by decide) (fun _ => ?_) (fun b => absurd rfl b)
  refine q_iload dL_law_2471 rfl ?_
  have hz3 : h1.1 ≤ h3.1 := q3.1
  have hz4 : h0.1 ≤ h1.1 := qs.1
  have fin : q_W g mL_law d mc ms Q (kc + 1) (ks + 6) 2509 [.ref 0, .ref 100, .ref 215, .ref 223, .ref 224, .int (nI i), .int ((x_mo_acceptedShare al ro s.1).2.1), .float ((x_mo_acceptedShare al ro s.1).1), q_u] [] h3 := by
    refine q_goto 2985 dL_law_2509 (by decide) ?_
    refine q_forget 6 ?_
    refine q_forget 7 ?_
    change q_W _ _ _ _ _ _ _ _ 2985 [.ref 0, .ref 100, .ref 215, .ref 223, .ref 224, .int (nI i), q_u, q_u, q_u] [] h3
    exact q_widen (by omega) (by omega) (K h3 ⟨_, _, _, _, _, _, _, _, _, _, _, _, _, _, _, _, _, _, _, _, _, _, w1.keep (q3.wide (by omega) (by omega)), ⟨_, ⟨_, _, _, _, _, _, _, _, _, m3⟩⟩, ⟨_, (q3.2 _ (by omega) (by omega)).trans c223b⟩, ⟨_, (q3.2 _ (by omega) (by omega)).trans c224b⟩, J2⟩)
  refine q_if_ne 2509 dL_law_2473 (by decide) (fun _ => fin) (fun b => ?_)
  have eo9 : (q_oF ((x_am_acceptedShare s.1 s.2.2.2.2.2.1 ca cj co).1)) = .inl (some (.float ((x_mo_acceptedShare al ro s.1).1))) := by
    rcases ag with ⟨et, eo⟩ | ⟨et, eo⟩
    · exact absurd (et.symm.trans b) (by decide)
    · exact eo
  have ev := hf2.2 _ eo9
  refine q_aload (by first | assumption | (rw [q_R0e]; omega)) dL_law_2476 rfl ?_
  refine q_iconst (v := 0) dL_law_2478 rfl ?_
  refine q_dald (f := f2) dL_law_2479 ((q3.2 _ (by omega) (by omega)).trans c224b) (vp_in_nI (n := 0) (N := 1) (by decide) (by decide)) ?_
  change q_W _ _ _ _ _ _ _ _ _ _ (.double (f2 0) :: _) _
  rw [ev]
  refine q_fload dL_law_2480 rfl ?_
  refine q_f2d dL_law_2482 (hshare _ eo9).1 ?_
  refine q_dcmp dL_law_2483 ?_
  exact q_if_eq 2509 dL_law_2484 (by decide) (fun _ => fin) (fun b => absurd (hshare _ eo9).2 b)
set_option maxRecDepth 100000 in
set_option maxHeartbeats 4000000 in
theorem l_c_isConsistent {g : q_G} {h : q_H} {d mc ms kc ks i t : Nat} {Q : q_O → q_H → Prop} (hP : z_P_isConsistent) (hI : z_I t h) (ht : t < 512) (hi : i + 2 < g.2.2.2.2.2.1) (hN : g.2.2.2.2.2.1 < 2 ^ 31) (ho : q_isold g 0) (hd : 26 ≤ d) (hkc : kc + 66 ≤ mc) (hks : ks + 10588 ≤ ms) (K : ∀ h2, z_I (t + 1) h2 → q_W g mL_law d mc ms Q (kc + 66) (ks + 10588) 2985 [.ref 0, .ref 100, .ref 215, .ref 223, .ref 224, .int (nI i), q_u, q_u, q_u] [] h2) : q_W g mL_law d mc ms Q kc ks 2512 [.ref 0, .ref 100, .ref 215, .ref 223, .ref 224, .int (nI i), q_u, q_u, q_u] [] h := by
  obtain ⟨hs, se, sf, s, s1, nx, kp, rw, ic, fi, lc, fl, al, cg, sv, ad, ln, lz, ip, ty, ea, fa, wc, ⟨th, wm⟩, ⟨f, c223⟩, ⟨fd, c224⟩, J⟩ := hI
  obtain ⟨s2, ca, cj, co, won, lost, pf, cv, sc, pc, pp, po, vb, oa, ob, w⟩ := wc
  obtain ⟨rs, ac, rj, ro, bf, he, er, cm, cn, m⟩ := wm
  obtain ⟨e0, hn, e3, hm⟩ := J.n0
  obtain ⟨ag, J2⟩ := hP t hs se sf s s1 nx kp rw ic fi lc fl al cg sv ad ln lz ip ty ea fa co won lost  ht J
  refine q_aload_n (by first | assumption | (rw [q_R0e]; omega)) dL_law_2512 rfl ?_
  refine q_invV (mc' := 0) (ms' := 0) (d' := d - 1) (as := []) dL_law_2513 kM_X10_isConsistent kL_L_337 kI_X10_isConsistent kS_X10_isConsistent rfl (kC_X10.1) w.1.c0 rfl rfl (Nat.le_of_ble_eq_true rfl) (by omega) (by decide) (by omega) (by omega) (c_isConsistent (g := g) (h := h) (d := d - 1) w (by omega)) (q_kC (fun h1 hB => ?_)) q_xC
  obtain ⟨w1, q1⟩ := hB
  have hz : 225 ≤ h.1 := w.2.2.2.2.2.2.2.2.2.s0
  have hz0 : h.1 ≤ h1.1 := q1.1
  have m1 := m.keepI (h1 := h1) q1.1 (fun j b1 b2 => q1.2 j (by omega) (by omega))
  have c223b := (q1.2 _ (by omega) (by omega)).trans c223
  have c224b := (q1.2 _ (by omega) (by omega)).trans c224
  change q_W _ _ _ _ _ _ _ _ 2516 [.ref 0, .ref 100, .ref 215, .ref 223, .ref 224, .int (nI i), q_u, q_u, q_u] [.int (z_b ((x_am_isConsistent s.1 s.2.2.2.2.2.1 co won lost).1))] h1
  rw [ag]
  refine q_aload_n (by first | assumption | (rw [q_R0e]; omega)) dL_law_2516 rfl ?_
  refine q_invV (mc' := 0) (ms' := 0) (d' := d - 1) (as := []) dL_law_2517 kM_X11_isConsistent kL_L_340 kI_X11_isConsistent kS_X11_isConsistent rfl (kC_X11.1) m1.c0 rfl rfl (Nat.le_of_ble_eq_true rfl) (by omega) (by decide) (by omega) (by omega) (r_isConsistent (g := g) (d := d - 1) m1 e0 hn e3 hm (by omega)) (q_kC (fun h3 hB3 => ?_)) q_xC
  obtain ⟨m3, q3⟩ := hB3
  change q_W _ _ _ _ _ _ _ _ 2520 [.ref 0, .ref 100, .ref 215, .ref 223, .ref 224, .int (nI i), q_u, q_u, q_u] [.int (z_b ((x_mo_isConsistent).1)), .int (z_b ((x_mo_isConsistent).1))] h3
  refine q_icmp_eq 2985 dL_law_2520 (by decide) (fun _ => ?_) (fun b => absurd rfl b)
  exact q_widen (by omega) (by omega) (K h3 ⟨_, _, _, _, _, _, _, _, _, _, _, _, _, _, _, _, _, _, _, _, _, _, w1.keep (q3.wide (by omega) (by omega)), ⟨_, m3⟩, ⟨_, (q3.2 _ (by omega) (by omega)).trans c223b⟩, ⟨_, (q3.2 _ (by omega) (by omega)).trans c224b⟩, J2⟩)
set_option maxRecDepth 100000 in
set_option maxHeartbeats 4000000 in
theorem l_c_formatArgument {g : q_G} {h : q_H} {d mc ms kc ks i t : Nat} {Q : q_O → q_H → Prop} (hP : z_P_formatArgument) (hI : z_I t h) (ht : t < 512) (hi : i + 2 < g.2.2.2.2.2.1) (hN : g.2.2.2.2.2.1 < 2 ^ 31) (ho : q_isold g 0) (hd : 26 ≤ d) (hkc : kc + 66 ≤ mc) (hks : ks + 10588 ≤ ms) (K : ∀ h2, z_I (t + 1) h2 → q_W g mL_law d mc ms Q (kc + 66) (ks + 10588) 2985 [.ref 0, .ref 100, .ref 215, .ref 223, .ref 224, .int (nI i), q_u, q_u, q_u] [] h2) : q_W g mL_law d mc ms Q kc ks 2525 [.ref 0, .ref 100, .ref 215, .ref 223, .ref 224, .int (nI i), q_u, q_u, q_u] [] h := by
  obtain ⟨hs, se, sf, s, s1, nx, kp, rw, ic, fi, lc, fl, al, cg, sv, ad, ln, lz, ip, ty, ea, fa, wc, ⟨th, wm⟩, ⟨f, c223⟩, ⟨fd, c224⟩, J⟩ := hI
  obtain ⟨s2, ca, cj, co, won, lost, pf, cv, sc, pc, pp, po, vb, oa, ob, w⟩ := wc
  obtain ⟨rs, ac, rj, ro, bf, he, er, cm, cn, m⟩ := wm
  obtain ⟨e0, hn, e3, hm⟩ := J.n0
  obtain ⟨p0, p1, p2, p3, p4, p5, p6, p7, ag, J2⟩ := hP t hs se sf s s1 nx kp rw ic fi lc fl al cg sv ad ln lz ip ty ea fa ca cj co ac rj ro (g.2.2.2.2.2.2 (i + 1)) ht J
  refine q_aload_n (by first | assumption | (rw [q_R0e]; omega)) dL_law_2525 rfl ?_
  refine q_aload_nO ho dL_law_2526 rfl ?_
  refine q_iload dL_law_2527 rfl ?_
  refine q_iconst (v := 1) dL_law_2529 rfl ?_
  refine q_iaddN (a := i) (b := 1) dL_law_2530 ?_
  refine q_taldIN (by decide) dL_law_2531 (rfl : q_ar g 0 = _) (by omega) hN ?_
  change q_W _ _ _ _ _ _ _ _ _ _ [.int (g.2.2.2.2.2.2 (i + 1)), .ref 100] _
  refine q_aload_n (by first | assumption | (rw [q_R0e]; omega)) dL_law_2532 rfl ?_
  have ho9 : (∃ v, (q_oI ((x_am_formatArgument s.1 s.2.1 s.2.2.1 s.2.2.2.1 s.2.2.2.2.2.1 ca cj co lc fl (g.2.2.2.2.2.2 (i + 1))).1)) = .inl (some (.int v))) ∨ (q_oI ((x_am_formatArgument s.1 s.2.1 s.2.2.1 s.2.2.2.1 s.2.2.2.2.2.1 ca cj co lc fl (g.2.2.2.2.2.2 (i + 1))).1)) = .inr "java/util/NoSuchElementException" := by
    rcases ag with ⟨et, eo⟩ | ⟨et, eo⟩
    · exact Or.inr (eo)
    · exact Or.inl ⟨_, eo⟩
  have hcd : z_cd [("java/util/NoSuchElementException", 1)] (q_oI ((x_am_formatArgument s.1 s.2.1 s.2.2.1 s.2.2.2.1 s.2.2.2.2.2.1 ca cj co lc fl (g.2.2.2.2.2.2 (i + 1))).1)) = (x_mo_formatArgument al ac rj ro ln lz s.1 (g.2.2.2.2.2.2 (i + 1))).2.1 := by
    rcases ag with ⟨et, eo⟩ | ⟨et, eo⟩
    · rw [et, eo]; rfl
    · rw [et, eo]; rfl
  have hB9 : ∀ h1, (z_C h1 hs se sf s s1 nx kp rw ic fi ((x_am_formatArgument s.1 s.2.1 s.2.2.1 s.2.2.2.1 s.2.2.2.2.2.1 ca cj co lc fl (g.2.2.2.2.2.2 (i + 1))).2.2.2.2.1) ((x_am_formatArgument s.1 s.2.1 s.2.2.1 s.2.2.2.1 s.2.2.2.2.2.1 ca cj co lc fl (g.2.2.2.2.2.2 (i + 1))).2.2.2.2.2) ∧ q_zone h h1 100 115) → h1.2 223 = some (.inl (4, 1, .inr (.inl f))) := fun h1 hb => (hb.2.2 _ (by omega) (by omega)).trans c223
  refine q_invSH (mc' := 25) (ms' := 6870) (d' := d - 1) (as := [.ref 100, .int ((g.2.2.2.2.2.2 (i + 1))), .ref 223]) dL_law_2533 kM_L_formatArgument kL_L_341 kT_L_formatArgument rfl rfl rfl (Nat.le_of_ble_eq_true rfl) (by omega) (by decide) (by omega) (by omega) (e_L_formatArgument (d := d - 1) (dd := d - 2) w.1.c0 hB9 ho9 (c_formatArgument (g := g) (h := h) (d := d - 2) w (g.2.2.2.2.2.2 (i + 1)) p0 p1 p2 p3 (by omega)) (by omega)) (q_kC (fun h1 hB => ?_)) q_xC
  obtain ⟨h0, ⟨wc1, q1⟩, e9⟩ := hB
  obtain ⟨f2, c223b, hf2⟩ := z_outL_c (o := q_oI ((x_am_formatArgument s.1 s.2.1 s.2.2.1 s.2.2.2.1 s.2.2.2.2.2.1 ca cj co lc fl (g.2.2.2.2.2.2 (i + 1))).1)) (hB9 h0 ⟨wc1, q1⟩)
  have qs : q_same h0 h1 223 1 := e9 ▸ z_outL_same
  rw [← e9] at c223b
  clear e9
  have hz : 225 ≤ h.1 := w.2.2.2.2.2.2.2.2.2.s0
  have hz0 : h.1 ≤ h0.1 := q1.1
  have c224b : h1.2 224 = _ := (qs.2 _ (by omega) (by omega)).trans ((q1.2 _ (by omega) (by omega)).trans c224)
  have w1 := wc1.keep (qs.wide (by omega) (by omega))
  have m1 := m.keepI (h1 := h1) (Nat.le_trans q1.1 qs.1) (fun j b1 b2 => (qs.2 j (by omega) (by omega)).trans (q1.2 j (by omega) (by omega)))
  clear wc1 hB9 ho9 m
  change q_W _ _ _ _ _ _ _ _ 2536 [.ref 0, .ref 100, .ref 215, .ref 223, .ref 224, .int (nI i), q_u, q_u, q_u] [.int (z_cd [("java/util/NoSuchElementException", 1)] (q_oI ((x_am_formatArgument s.1 s.2.1 s.2.2.1 s.2.2.2.1 s.2.2.2.2.2.1 ca cj co lc fl (g.2.2.2.2.2.2 (i + 1))).1)))] h1
  rw [hcd]
  refine q_istore dL_law_2536 (by decide) rfl ?_
  change q_W _ _ _ _ _ _ _ _ 2538 [.ref 0, .ref 100, .ref 215, .ref 223, .ref 224, .int (nI i), .int ((x_mo_formatArgument al ac rj ro ln lz s.1 (g.2.2.2.2.2.2 (i + 1))).2.1), q_u, q_u] [] h1
  refine q_aload_n (by first | assumption | (rw [q_R0e]; omega)) dL_law_2538 rfl ?_
  refine q_aload_nO ho dL_law_2539 rfl ?_
  refine q_iload dL_law_2540 rfl ?_
  refine q_iconst (v := 1) dL_law_2542 rfl ?_
  refine q_iaddN (a := i) (b := 1) dL_law_2543 ?_
  refine q_taldIN (by decide) dL_law_2544 (rfl : q_ar g 0 = _) (by omega) hN ?_
  change q_W _ _ _ _ _ _ _ _ _ _ [.int (g.2.2.2.2.2.2 (i + 1)), .ref 215] _
  refine q_invV (mc' := 0) (ms' := 0) (d' := d - 1) (as := [.int ((g.2.2.2.2.2.2 (i + 1)))]) dL_law_2545 kM_X11_formatArgument kL_L_343 kI_X11_formatArgument kS_X11_formatArgument rfl (kC_X11.1) m1.c0 rfl rfl (Nat.le_of_ble_eq_true rfl) (by omega) (by decide) (by omega) (by omega) (r_formatArgument (g := g) (d := d - 1) m1 e0 hn e3 hm (g.2.2.2.2.2.2 (i + 1)) p4 p5 p6 p7 (by omega)) (q_kC (fun h3 hB3 => ?_)) q_xC
  obtain ⟨m3, q3⟩ := hB3
  obtain ⟨rs3, ac3, rj3, ro3, bf3, he3, er3, cm3, cn3, m3⟩ := m3
  change q_W _ _ _ _ _ _ _ _ 2548 [.ref 0, .ref 100, .ref 215, .ref 223, .ref 224, .int (nI i), .int ((x_mo_formatArgument al ac rj ro ln lz s.1 (g.2.2.2.2.2.2 (i + 1))).2.1), q_u, q_u] [.int ((x_mo_formatArgument al ac rj ro ln lz s.1 (g.2.2.2.2.2.2 (i + 1))).1)] h3
  refine q_istore dL_law_2548 (by decide) rfl ?_
  change q_W _ _ _ _ _ _ _ _ 2550 [.ref 0, .ref 100, .ref 215, .ref 223, .ref 224, .int (nI i), .int ((x_mo_formatArgument al ac rj ro ln lz s.1 (g.2.2.2.2.2.2 (i + 1))).2.1), .int ((x_mo_formatArgument al ac rj ro ln lz s.1 (g.2.2.2.2.2.2 (i + 1))).1), q_u] [] h3
  refine q_aload_n (by first | assumption | (rw [q_R0e]; omega)) dL_law_2550 rfl ?_
  refine q_invV (mc' := 0) (ms' := 0) (d' := d - 1) (as := []) dL_law_2551 kM_X11_thrown kL_L_166 kI_X11_thrown kS_X11_thrown rfl (kC_X11.1) m3.c0 rfl rfl (Nat.le_of_ble_eq_true rfl) (by omega) (by decide) (by omega) (by omega) (e_mo_thrownR (d := d - 1) m3 (by omega)) (q_kR ?_) q_xR
  change q_W _ _ _ _ _ _ _ _ 2554 [.ref 0, .ref 100, .ref 215, .ref 223, .ref 224, .int (nI i), .int ((x_mo_formatArgument al ac rj ro ln lz s.1 (g.2.2.2.2.2.2 (i + 1))).2.1), .int ((x_mo_formatArgument al ac rj ro ln lz s.1 (g.2.2.2.2.2.2 (i + 1))).1), q_u] [.int ((x_mo_formatArgument al ac rj ro ln lz s.1 (g.2.2.2.2.2.2 (i + 1))).2.1)] h3
  refine q_iload dL_law_2554 rfl ?_
  refine q_icmp_eq 2561 dL_law_2556 (by decide) (fun _ => ?_) (fun b => absurd rfl b)
  refine q_iload dL_law_2561 rfl ?_
  have hz3 : h1.1 ≤ h3.1 := q3.1
  have hz4 : h0.1 ≤ h1.1 := qs.1
  have fin : q_W g mL_law d mc ms Q (kc + 25) (ks + 6870) 2578 [.ref 0, .ref 100, .ref 215, .ref 223, .ref 224, .int (nI i), .int ((x_mo_formatArgument al ac rj ro ln lz s.1 (g.2.2.2.2.2.2 (i + 1))).2.1), .int ((x_mo_formatArgument al ac rj ro ln lz s.1 (g.2.2.2.2.2.2 (i + 1))).1), q_u] [] h3 := by
    refine q_goto 2985 dL_law_2578 (by decide) ?_
    refine q_forget 6 ?_
    refine q_forget 7 ?_
    change q_W _ _ _ _ _ _ _ _ 2985 [.ref 0, .ref 100, .ref 215, .ref 223, .ref 224, .int (nI i), q_u, q_u, q_u] [] h3
    exact q_widen (by omega) (by omega) (K h3 ⟨_, _, _, _, _, _, _, _, _, _, _, _, _, _, _, _, _, _, _, _, _, _, w1.keep (q3.wide (by omega) (by omega)), ⟨_, ⟨_, _, _, _, _, _, _, _, _, m3⟩⟩, ⟨_, (q3.2 _ (by omega) (by omega)).trans c223b⟩, ⟨_, (q3.2 _ (by omega) (by omega)).trans c224b⟩, J2⟩)
  refine q_if_ne 2578 dL_law_2563 (by decide) (fun _ => fin) (fun b => ?_)
  have eo9 : (q_oI ((x_am_formatArgument s.1 s.2.1 s.2.2.1 s.2.2.2.1 s.2.2.2.2.2.1 ca cj co lc fl (g.2.2.2.2.2.2 (i + 1))).1)) = .inl (some (.int ((x_mo_formatArgument al ac rj ro ln lz s.1 (g.2.2.2.2.2.2 (i + 1))).1))) := by
    rcases ag with ⟨et, eo⟩ | ⟨et, eo⟩
    · exact absurd (et.symm.trans b) (by decide)
    · exact eo
  have ev := hf2 _ eo9
  refine q_aload_n (by first | assumption | (rw [q_R0e]; omega)) dL_law_2566 rfl ?_
  refine q_iconst (v := 0) dL_law_2567 rfl ?_
  refine q_lald (f := f2) dL_law_2568 ((q3.2 _ (by omega) (by omega)).trans c223b) (vp_in_nI (n := 0) (N := 1) (by decide) (by decide)) ?_
  change q_W _ _ _ _ _ _ _ _ _ _ [.long (f2 0)] _
  rw [ev]
  refine q_iload dL_law_2569 rfl ?_
  refine q_i2l dL_law_2571 rfl ?_
  refine q_lcmp dL_law_2572 ?_
  rw [z_lcmp]
  exact q_if_eq 2578 dL_law_2573 (by decide) (fun _ => fin) (fun b => absurd rfl b)
set_option maxRecDepth 100000 in
set_option maxHeartbeats 4000000 in
theorem l_c_formatDialogue {g : q_G} {h : q_H} {d mc ms kc ks i t : Nat} {Q : q_O → q_H → Prop} (hP : z_P_formatDialogue) (hI : z_I t h) (ht : t < 512) (hi : i + 2 < g.2.2.2.2.2.1) (hN : g.2.2.2.2.2.1 < 2 ^ 31) (ho : q_isold g 0) (hd : 26 ≤ d) (hkc : kc + 66 ≤ mc) (hks : ks + 10588 ≤ ms) (K : ∀ h2, z_I (t + 1) h2 → q_W g mL_law d mc ms Q (kc + 66) (ks + 10588) 2985 [.ref 0, .ref 100, .ref 215, .ref 223, .ref 224, .int (nI i), q_u, q_u, q_u] [] h2) : q_W g mL_law d mc ms Q kc ks 2581 [.ref 0, .ref 100, .ref 215, .ref 223, .ref 224, .int (nI i), q_u, q_u, q_u] [] h := by
  obtain ⟨hs, se, sf, s, s1, nx, kp, rw, ic, fi, lc, fl, al, cg, sv, ad, ln, lz, ip, ty, ea, fa, wc, ⟨th, wm⟩, ⟨f, c223⟩, ⟨fd, c224⟩, J⟩ := hI
  obtain ⟨s2, ca, cj, co, won, lost, pf, cv, sc, pc, pp, po, vb, oa, ob, w⟩ := wc
  obtain ⟨rs, ac, rj, ro, bf, he, er, cm, cn, m⟩ := wm
  obtain ⟨e0, hn, e3, hm⟩ := J.n0
  obtain ⟨p0, p1, ag, J2⟩ := hP t hs se sf s s1 nx kp rw ic fi lc fl al cg sv ad ln lz ip ty ea fa   ht J
  refine q_aload_n (by first | assumption | (rw [q_R0e]; omega)) dL_law_2581 rfl ?_
  refine q_aload_n (by first | assumption | (rw [q_R0e]; omega)) dL_law_2582 rfl ?_
  have ho9 : (∃ v, (q_oI ((x_am_formatDialogue s.2.2.2.2.2.2.2.2.1 s.2.2.2.2.2.2.2.2.2.1 lc fl).1)) = .inl (some (.int v))) ∨ (q_oI ((x_am_formatDialogue s.2.2.2.2.2.2.2.2.1 s.2.2.2.2.2.2.2.2.2.1 lc fl).1)) = .inr "java/util/NoSuchElementException" := by
    rcases ag with ⟨et, eo⟩ | ⟨et, eo⟩
    · exact Or.inr (eo)
    · exact Or.inl ⟨_, eo⟩
  have hcd : z_cd [("java/util/NoSuchElementException", 1)] (q_oI ((x_am_formatDialogue s.2.2.2.2.2.2.2.2.1 s.2.2.2.2.2.2.2.2.2.1 lc fl).1)) = (x_mo_formatDialogue al ln lz s.2.2.2.2.2.2.2.2.1).2.1 := by
    rcases ag with ⟨et, eo⟩ | ⟨et, eo⟩
    · rw [et, eo]; rfl
    · rw [et, eo]; rfl
  have hB9 : ∀ h1, (z_C h1 hs se sf s s1 nx kp rw ic fi ((x_am_formatDialogue s.2.2.2.2.2.2.2.2.1 s.2.2.2.2.2.2.2.2.2.1 lc fl).2.1) ((x_am_formatDialogue s.2.2.2.2.2.2.2.2.1 s.2.2.2.2.2.2.2.2.2.1 lc fl).2.2) ∧ q_zone h h1 100 115) → h1.2 223 = some (.inl (4, 1, .inr (.inl f))) := fun h1 hb => (hb.2.2 _ (by omega) (by omega)).trans c223
  refine q_invSH (mc' := 38) (ms' := 10588) (d' := d - 1) (as := [.ref 100, .ref 223]) dL_law_2583 kM_L_formatDialogue kL_L_344 kT_L_formatDialogue rfl rfl rfl (Nat.le_of_ble_eq_true rfl) (by omega) (by decide) (by omega) (by omega) (e_L_formatDialogue (d := d - 1) (dd := d - 2) w.1.c0 hB9 ho9 (c_formatDialogue (g := g) (h := h) (d := d - 2) w p0 (by omega)) (by omega)) (q_kC (fun h1 hB => ?_)) q_xC
  obtain ⟨h0, ⟨wc1, q1⟩, e9⟩ := hB
  obtain ⟨f2, c223b, hf2⟩ := z_outL_c (o := q_oI ((x_am_formatDialogue s.2.2.2.2.2.2.2.2.1 s.2.2.2.2.2.2.2.2.2.1 lc fl).1)) (hB9 h0 ⟨wc1, q1⟩)
  have qs : q_same h0 h1 223 1 := e9 ▸ z_outL_same
  rw [← e9] at c223b
  clear e9
  have hz : 225 ≤ h.1 := w.2.2.2.2.2.2.2.2.2.s0
  have hz0 : h.1 ≤ h0.1 := q1.1
  have c224b : h1.2 224 = _ := (qs.2 _ (by omega) (by omega)).trans ((q1.2 _ (by omega) (by omega)).trans c224)
  have w1 := wc1.keep (qs.wide (by omega) (by omega))
  have m1 := m.keepI (h1 := h1) (Nat.le_trans q1.1 qs.1) (fun j b1 b2 => (qs.2 j (by omega) (by omega)).trans (q1.2 j (by omega) (by omega)))
  clear wc1 hB9 ho9 m
  change q_W _ _ _ _ _ _ _ _ 2586 [.ref 0, .ref 100, .ref 215, .ref 223, .ref 224, .int (nI i), q_u, q_u, q_u] [.int (z_cd [("java/util/NoSuchElementException", 1)] (q_oI ((x_am_formatDialogue s.2.2.2.2.2.2.2.2.1 s.2.2.2.2.2.2.2.2.2.1 lc fl).1)))] h1
  rw [hcd]
  refine q_istore dL_law_2586 (by decide) rfl ?_
  change q_W _ _ _ _ _ _ _ _ 2588 [.ref 0, .ref 100, .ref 215, .ref 223, .ref 224, .int (nI i), .int ((x_mo_formatDialogue al ln lz s.2.2.2.2.2.2.2.2.1).2.1), q_u, q_u] [] h1
  refine q_aload_n (by first | assumption | (rw [q_R0e]; omega)) dL_law_2588 rfl ?_
  refine q_invV (mc' := 0) (ms' := 0) (d' := d - 1) (as := []) dL_law_2589 kM_X11_formatDialogue kL_L_346 kI_X11_formatDialogue kS_X11_formatDialogue rfl (kC_X11.1) m1.c0 rfl rfl (Nat.le_of_ble_eq_true rfl) (by omega) (by decide) (by omega) (by omega) (r_formatDialogue (g := g) (d := d - 1) m1 e0 hn e3 hm p1 (by omega)) (q_kC (fun h3 hB3 => ?_)) q_xC
  obtain ⟨m3, q3⟩ := hB3
  obtain ⟨rs3, ac3, rj3, ro3, bf3, he3, er3, cm3, cn3, m3⟩ := m3
  change q_W _ _ _ _ _ _ _ _ 2592 [.ref 0, .ref 100, .ref 215, .ref 223, .ref 224, .int (nI i), .int ((x_mo_formatDialogue al ln lz s.2.2.2.2.2.2.2.2.1).2.1), q_u, q_u] [.int ((x_mo_formatDialogue al ln lz s.2.2.2.2.2.2.2.2.1).1)] h3
  refine q_istore dL_law_2592 (by decide) rfl ?_
  change q_W _ _ _ _ _ _ _ _ 2594 [.ref 0, .ref 100, .ref 215, .ref 223, .ref 224, .int (nI i), .int ((x_mo_formatDialogue al ln lz s.2.2.2.2.2.2.2.2.1).2.1), .int ((x_mo_formatDialogue al ln lz s.2.2.2.2.2.2.2.2.1).1), q_u] [] h3
  refine q_aload_n (by first | assumption | (rw [q_R0e]; omega)) dL_law_2594 rfl ?_
  refine q_invV (mc' := 0) (ms' := 0) (d' := d - 1) (as := []) dL_law_2595 kM_X11_thrown kL_L_166 kI_X11_thrown kS_X11_thrown rfl (kC_X11.1) m3.c0 rfl rfl (Nat.le_of_ble_eq_true rfl) (by omega) (by decide) (by omega) (by omega) (e_mo_thrownR (d := d - 1) m3 (by omega)) (q_kR ?_) q_xR
  change q_W _ _ _ _ _ _ _ _ 2598 [.ref 0, .ref 100, .ref 215, .ref 223, .ref 224, .int (nI i), .int ((x_mo_formatDialogue al ln lz s.2.2.2.2.2.2.2.2.1).2.1), .int ((x_mo_formatDialogue al ln lz s.2.2.2.2.2.2.2.2.1).1), q_u] [.int ((x_mo_formatDialogue al ln lz s.2.2.2.2.2.2.2.2.1).2.1)] h3
  refine q_iload dL_law_2598 rfl ?_
  refine q_icmp_eq 2605 dL_law_2600 (by decide) (fun _ => ?_) (fun b => absurd rfl b)
  refine q_iload dL_law_2605 rfl ?_
  have hz3 : h1.1 ≤ h3.1 := q3.1
  have hz4 : h0.1 ≤ h1.1 := qs.1
  have fin : q_W g mL_law d mc ms Q (kc + 38) (ks + 10588) 2622 [.ref 0, .ref 100, .ref 215, .ref 223, .ref 224, .int (nI i), .int ((x_mo_formatDialogue al ln lz s.2.2.2.2.2.2.2.2.1).2.1), .int ((x_mo_formatDialogue al ln lz s.2.2.2.2.2.2.2.2.1).1), q_u] [] h3 := by
    refine q_goto 2985 dL_law_2622 (by decide) ?_
    refine q_forget 6 ?_
    refine q_forget 7 ?_
    change q_W _ _ _ _ _ _ _ _ 2985 [.ref 0, .ref 100, .ref 215, .ref 223, .ref 224, .int (nI i), q_u, q_u, q_u] [] h3
    exact q_widen (by omega) (by omega) (K h3 ⟨_, _, _, _, _, _, _, _, _, _, _, _, _, _, _, _, _, _, _, _, _, _, w1.keep (q3.wide (by omega) (by omega)), ⟨_, ⟨_, _, _, _, _, _, _, _, _, m3⟩⟩, ⟨_, (q3.2 _ (by omega) (by omega)).trans c223b⟩, ⟨_, (q3.2 _ (by omega) (by omega)).trans c224b⟩, J2⟩)
  refine q_if_ne 2622 dL_law_2607 (by decide) (fun _ => fin) (fun b => ?_)
  have eo9 : (q_oI ((x_am_formatDialogue s.2.2.2.2.2.2.2.2.1 s.2.2.2.2.2.2.2.2.2.1 lc fl).1)) = .inl (some (.int ((x_mo_formatDialogue al ln lz s.2.2.2.2.2.2.2.2.1).1))) := by
    rcases ag with ⟨et, eo⟩ | ⟨et, eo⟩
    · exact absurd (et.symm.trans b) (by decide)
    · exact eo
  have ev := hf2 _ eo9
  refine q_aload_n (by first | assumption | (rw [q_R0e]; omega)) dL_law_2610 rfl ?_
  refine q_iconst (v := 0) dL_law_2611 rfl ?_
  refine q_lald (f := f2) dL_law_2612 ((q3.2 _ (by omega) (by omega)).trans c223b) (vp_in_nI (n := 0) (N := 1) (by decide) (by decide)) ?_
  change q_W _ _ _ _ _ _ _ _ _ _ [.long (f2 0)] _
  rw [ev]
  refine q_iload dL_law_2613 rfl ?_
  refine q_i2l dL_law_2615 rfl ?_
  refine q_lcmp dL_law_2616 ?_
  rw [z_lcmp]
  exact q_if_eq 2622 dL_law_2617 (by decide) (fun _ => fin) (fun b => absurd rfl b)
set_option maxRecDepth 100000 in
set_option maxHeartbeats 4000000 in
theorem l_c_lineChar {g : q_G} {h : q_H} {d mc ms kc ks i t : Nat} {Q : q_O → q_H → Prop} (hP : z_P_lineChar) (hI : z_I t h) (ht : t < 512) (hi : i + 2 < g.2.2.2.2.2.1) (hN : g.2.2.2.2.2.1 < 2 ^ 31) (ho : q_isold g 0) (hd : 26 ≤ d) (hkc : kc + 66 ≤ mc) (hks : ks + 10588 ≤ ms) (K : ∀ h2, z_I (t + 1) h2 → q_W g mL_law d mc ms Q (kc + 66) (ks + 10588) 2985 [.ref 0, .ref 100, .ref 215, .ref 223, .ref 224, .int (nI i), q_u, q_u, q_u] [] h2) : q_W g mL_law d mc ms Q kc ks 2625 [.ref 0, .ref 100, .ref 215, .ref 223, .ref 224, .int (nI i), q_u, q_u, q_u] [] h := by
  obtain ⟨hs, se, sf, s, s1, nx, kp, rw, ic, fi, lc, fl, al, cg, sv, ad, ln, lz, ip, ty, ea, fa, wc, ⟨th, wm⟩, ⟨f, c223⟩, ⟨fd, c224⟩, J⟩ := hI
  obtain ⟨s2, ca, cj, co, won, lost, pf, cv, sc, pc, pp, po, vb, oa, ob, w⟩ := wc
  obtain ⟨rs, ac, rj, ro, bf, he, er, cm, cn, m⟩ := wm
  obtain ⟨e0, hn, e3, hm⟩ := J.n0
  obtain ⟨p0, ag, J2⟩ := hP t hs se sf s s1 nx kp rw ic fi lc fl al cg sv ad ln lz ip ty ea fa  (g.2.2.2.2.2.2 (i + 1)) ht J
  refine q_aload_n (by first | assumption | (rw [q_R0e]; omega)) dL_law_2625 rfl ?_
  refine q_aload_nO ho dL_law_2626 rfl ?_
  refine q_iload dL_law_2627 rfl ?_
  refine q_iconst (v := 1) dL_law_2629 rfl ?_
  refine q_iaddN (a := i) (b := 1) dL_law_2630 ?_
  refine q_taldIN (by decide) dL_law_2631 (rfl : q_ar g 0 = _) (by omega) hN ?_
  change q_W _ _ _ _ _ _ _ _ _ _ [.int (g.2.2.2.2.2.2 (i + 1)), .ref 100] _
  refine q_aload_n (by first | assumption | (rw [q_R0e]; omega)) dL_law_2632 rfl ?_
  have ho9 : (∃ v, (q_oI ((x_am_lineChar lc fl (g.2.2.2.2.2.2 (i + 1))))) = .inl (some (.int v))) ∨ (q_oI ((x_am_lineChar lc fl (g.2.2.2.2.2.2 (i + 1))))) = .inr "java/lang/IndexOutOfBoundsException" := by
    rcases ag with ⟨et, eo⟩ | ⟨et, eo⟩
    · exact Or.inr (eo)
    · exact Or.inl ⟨_, eo⟩
  have hcd : z_cd [("java/lang/IndexOutOfBoundsException", 1)] (q_oI ((x_am_lineChar lc fl (g.2.2.2.2.2.2 (i + 1))))) = (x_mo_lineChar ln lz (g.2.2.2.2.2.2 (i + 1))).2 := by
    rcases ag with ⟨et, eo⟩ | ⟨et, eo⟩
    · rw [et, eo]; rfl
    · rw [et, eo]; rfl
  have hB9 : ∀ h1, (z_C h1 hs se sf s s1 nx kp rw ic fi lc fl ∧ q_zone h h1 100 115) → h1.2 223 = some (.inl (4, 1, .inr (.inl f))) := fun h1 hb => (hb.2.2 _ (by omega) (by omega)).trans c223
  refine q_invSH (mc' := 1) (ms' := 6) (d' := d - 1) (as := [.ref 100, .int ((g.2.2.2.2.2.2 (i + 1))), .ref 223]) dL_law_2633 kM_L_lineChar kL_L_347 kT_L_lineChar rfl rfl rfl (Nat.le_of_ble_eq_true rfl) (by omega) (by decide) (by omega) (by omega) (e_L_lineChar (d := d - 1) (dd := d - 2) w.1.c0 hB9 ho9 (c_lineChar (g := g) (h := h) (d := d - 2) w (g.2.2.2.2.2.2 (i + 1)) (by omega)) (by omega)) (q_kC (fun h1 hB => ?_)) q_xC
  obtain ⟨h0, ⟨wc1, q1⟩, e9⟩ := hB
  obtain ⟨f2, c223b, hf2⟩ := z_outL_c (o := q_oI ((x_am_lineChar lc fl (g.2.2.2.2.2.2 (i + 1))))) (hB9 h0 ⟨wc1, q1⟩)
  have qs : q_same h0 h1 223 1 := e9 ▸ z_outL_same
  rw [← e9] at c223b
  clear e9
  have hz : 225 ≤ h.1 := w.2.2.2.2.2.2.2.2.2.s0
  have hz0 : h.1 ≤ h0.1 := q1.1
  have c224b : h1.2 224 = _ := (qs.2 _ (by omega) (by omega)).trans ((q1.2 _ (by omega) (by omega)).trans c224)
  have w1 := wc1.keep (qs.wide (by omega) (by omega))
  have m1 := m.keepI (h1 := h1) (Nat.le_trans q1.1 qs.1) (fun j b1 b2 => (qs.2 j (by omega) (by omega)).trans (q1.2 j (by omega) (by omega)))
  clear wc1 hB9 ho9 m
  change q_W _ _ _ _ _ _ _ _ 2636 [.ref 0, .ref 100, .ref 215, .ref 223, .ref 224, .int (nI i), q_u, q_u, q_u] [.int (z_cd [("java/lang/IndexOutOfBoundsException", 1)] (q_oI ((x_am_lineChar lc fl (g.2.2.2.2.2.2 (i + 1))))))] h1
  rw [hcd]
  refine q_istore dL_law_2636 (by decide) rfl ?_
  change q_W _ _ _ _ _ _ _ _ 2638 [.ref 0, .ref 100, .ref 215, .ref 223, .ref 224, .int (nI i), .int ((x_mo_lineChar ln lz (g.2.2.2.2.2.2 (i + 1))).2), q_u, q_u] [] h1
  refine q_aload_n (by first | assumption | (rw [q_R0e]; omega)) dL_law_2638 rfl ?_
  refine q_aload_nO ho dL_law_2639 rfl ?_
  refine q_iload dL_law_2640 rfl ?_
  refine q_iconst (v := 1) dL_law_2642 rfl ?_
  refine q_iaddN (a := i) (b := 1) dL_law_2643 ?_
  refine q_taldIN (by decide) dL_law_2644 (rfl : q_ar g 0 = _) (by omega) hN ?_
  change q_W _ _ _ _ _ _ _ _ _ _ [.int (g.2.2.2.2.2.2 (i + 1)), .ref 215] _
  refine q_invV (mc' := 0) (ms' := 0) (d' := d - 1) (as := [.int ((g.2.2.2.2.2.2 (i + 1)))]) dL_law_2645 kM_X11_lineChar kL_L_349 kI_X11_lineChar kS_X11_lineChar rfl (kC_X11.1) m1.c0 rfl rfl (Nat.le_of_ble_eq_true rfl) (by omega) (by decide) (by omega) (by omega) (r_lineChar (g := g) (d := d - 1) m1 e0 hn e3 hm (g.2.2.2.2.2.2 (i + 1)) p0 (by omega)) (q_kC (fun h3 hB3 => ?_)) q_xC
  obtain ⟨m3, q3⟩ := hB3
  obtain ⟨rs3, ac3, rj3, ro3, bf3, he3, er3, cm3, cn3, m3⟩ := m3
  change q_W _ _ _ _ _ _ _ _ 2648 [.ref 0, .ref 100, .ref 215, .ref 223, .ref 224, .int (nI i), .int ((x_mo_lineChar ln lz (g.2.2.2.2.2.2 (i + 1))).2), q_u, q_u] [.int ((x_mo_lineChar ln lz (g.2.2.2.2.2.2 (i + 1))).1)] h3
  refine q_istore dL_law_2648 (by decide) rfl ?_
  change q_W _ _ _ _ _ _ _ _ 2650 [.ref 0, .ref 100, .ref 215, .ref 223, .ref 224, .int (nI i), .int ((x_mo_lineChar ln lz (g.2.2.2.2.2.2 (i + 1))).2), .int ((x_mo_lineChar ln lz (g.2.2.2.2.2.2 (i + 1))).1), q_u] [] h3
  refine q_aload_n (by first | assumption | (rw [q_R0e]; omega)) dL_law_2650 rfl ?_
  refine q_invV (mc' := 0) (ms' := 0) (d' := d - 1) (as := []) dL_law_2651 kM_X11_thrown kL_L_166 kI_X11_thrown kS_X11_thrown rfl (kC_X11.1) m3.c0 rfl rfl (Nat.le_of_ble_eq_true rfl) (by omega) (by decide) (by omega) (by omega) (e_mo_thrownR (d := d - 1) m3 (by omega)) (q_kR ?_) q_xR
  change q_W _ _ _ _ _ _ _ _ 2654 [.ref 0, .ref 100, .ref 215, .ref 223, .ref 224, .int (nI i), .int ((x_mo_lineChar ln lz (g.2.2.2.2.2.2 (i + 1))).2), .int ((x_mo_lineChar ln lz (g.2.2.2.2.2.2 (i + 1))).1), q_u] [.int ((x_mo_lineChar ln lz (g.2.2.2.2.2.2 (i + 1))).2)] h3
  refine q_iload dL_law_2654 rfl ?_
  refine q_icmp_eq 2661 dL_law_2656 (by decide) (fun _ => ?_) (fun b => absurd rfl b)
  refine q_iload dL_law_2661 rfl ?_
  have hz3 : h1.1 ≤ h3.1 := q3.1
  have hz4 : h0.1 ≤ h1.1 := qs.1
  have fin : q_W g mL_law d mc ms Q (kc + 1) (ks + 6) 2678 [.ref 0, .ref 100, .ref 215, .ref 223, .ref 224, .int (nI i), .int ((x_mo_lineChar ln lz (g.2.2.2.2.2.2 (i + 1))).2), .int ((x_mo_lineChar ln lz (g.2.2.2.2.2.2 (i + 1))).1), q_u] [] h3 := by
    refine q_goto 2985 dL_law_2678 (by decide) ?_
    refine q_forget 6 ?_
    refine q_forget 7 ?_
    change q_W _ _ _ _ _ _ _ _ 2985 [.ref 0, .ref 100, .ref 215, .ref 223, .ref 224, .int (nI i), q_u, q_u, q_u] [] h3
    exact q_widen (by omega) (by omega) (K h3 ⟨_, _, _, _, _, _, _, _, _, _, _, _, _, _, _, _, _, _, _, _, _, _, w1.keep (q3.wide (by omega) (by omega)), ⟨_, ⟨_, _, _, _, _, _, _, _, _, m3⟩⟩, ⟨_, (q3.2 _ (by omega) (by omega)).trans c223b⟩, ⟨_, (q3.2 _ (by omega) (by omega)).trans c224b⟩, J2⟩)
  refine q_if_ne 2678 dL_law_2663 (by decide) (fun _ => fin) (fun b => ?_)
  have eo9 : (q_oI ((x_am_lineChar lc fl (g.2.2.2.2.2.2 (i + 1))))) = .inl (some (.int ((x_mo_lineChar ln lz (g.2.2.2.2.2.2 (i + 1))).1))) := by
    rcases ag with ⟨et, eo⟩ | ⟨et, eo⟩
    · exact absurd (et.symm.trans b) (by decide)
    · exact eo
  have ev := hf2 _ eo9
  refine q_aload_n (by first | assumption | (rw [q_R0e]; omega)) dL_law_2666 rfl ?_
  refine q_iconst (v := 0) dL_law_2667 rfl ?_
  refine q_lald (f := f2) dL_law_2668 ((q3.2 _ (by omega) (by omega)).trans c223b) (vp_in_nI (n := 0) (N := 1) (by decide) (by decide)) ?_
  change q_W _ _ _ _ _ _ _ _ _ _ [.long (f2 0)] _
  rw [ev]
  refine q_iload dL_law_2669 rfl ?_
  refine q_i2l dL_law_2671 rfl ?_
  refine q_lcmp dL_law_2672 ?_
  rw [z_lcmp]
  exact q_if_eq 2678 dL_law_2673 (by decide) (fun _ => fin) (fun b => absurd rfl b)
set_option maxRecDepth 100000 in
set_option maxHeartbeats 4000000 in
theorem l_c_append {g : q_G} {h : q_H} {d mc ms kc ks i t : Nat} {Q : q_O → q_H → Prop} (hP : z_P_append) (hI : z_I t h) (ht : t < 512) (hi : i + 2 < g.2.2.2.2.2.1) (hN : g.2.2.2.2.2.1 < 2 ^ 31) (ho : q_isold g 0) (hd : 26 ≤ d) (hkc : kc + 66 ≤ mc) (hks : ks + 10588 ≤ ms) (K : ∀ h2, z_I (t + 1) h2 → q_W g mL_law d mc ms Q (kc + 66) (ks + 10588) 2985 [.ref 0, .ref 100, .ref 215, .ref 223, .ref 224, .int (nI i), q_u, q_u, q_u] [] h2) : q_W g mL_law d mc ms Q kc ks 2681 [.ref 0, .ref 100, .ref 215, .ref 223, .ref 224, .int (nI i), q_u, q_u, q_u] [] h := by
  obtain ⟨hs, se, sf, s, s1, nx, kp, rw, ic, fi, lc, fl, al, cg, sv, ad, ln, lz, ip, ty, ea, fa, wc, ⟨th, wm⟩, ⟨f, c223⟩, ⟨fd, c224⟩, J⟩ := hI
  obtain ⟨s2, ca, cj, co, won, lost, pf, cv, sc, pc, pp, po, vb, oa, ob, w⟩ := wc
  obtain ⟨rs, ac, rj, ro, bf, he, er, cm, cn, m⟩ := wm
  obtain ⟨e0, hn, e3, hm⟩ := J.n0
  obtain ⟨ag, J2⟩ := hP t hs se sf s s1 nx kp rw ic fi lc fl al cg sv ad ln lz ip ty ea fa  ((g.2.2.2.2.2.2 (i + 1)).toUInt32 % 65536).toInt32 ht J
  refine q_aload_n (by first | assumption | (rw [q_R0e]; omega)) dL_law_2681 rfl ?_
  refine q_aload_nO ho dL_law_2682 rfl ?_
  refine q_iload dL_law_2683 rfl ?_
  refine q_iconst (v := 1) dL_law_2685 rfl ?_
  refine q_iaddN (a := i) (b := 1) dL_law_2686 ?_
  refine q_taldIN (by decide) dL_law_2687 (rfl : q_ar g 0 = _) (by omega) hN ?_
  change q_W _ _ _ _ _ _ _ _ _ _ [.int (g.2.2.2.2.2.2 (i + 1)), .ref 100] _
  refine q_i2c dL_law_2688 rfl ?_
  refine q_aload_n (by first | assumption | (rw [q_R0e]; omega)) dL_law_2689 rfl ?_
  have ho9 : (∃ v, (q_oI ((x_am_append ic fi (((g.2.2.2.2.2.2 (i + 1)).toUInt32 % 65536).toInt32)).1)) = .inl (some (.int v))) ∨ (q_oI ((x_am_append ic fi (((g.2.2.2.2.2.2 (i + 1)).toUInt32 % 65536).toInt32)).1)) = .inr "java/lang/IllegalArgumentException" ∨ (q_oI ((x_am_append ic fi (((g.2.2.2.2.2.2 (i + 1)).toUInt32 % 65536).toInt32)).1)) = .inr "java/lang/IllegalStateException" := by
    rcases ag with ⟨et, eo⟩ | ⟨et, eo⟩ | ⟨et, eo⟩
    · exact Or.inr (Or.inl eo)
    · exact Or.inr (Or.inr (eo))
    · exact Or.inl ⟨_, eo⟩
  have hcd : z_cd [("java/lang/IllegalArgumentException", 1), ("java/lang/IllegalStateException", 2)] (q_oI ((x_am_append ic fi (((g.2.2.2.2.2.2 (i + 1)).toUInt32 % 65536).toInt32)).1)) = (x_mo_append ip ty (((g.2.2.2.2.2.2 (i + 1)).toUInt32 % 65536).toInt32)).2.1 := by
    rcases ag with ⟨et, eo⟩ | ⟨et, eo⟩ | ⟨et, eo⟩
    · rw [et, eo]; rfl
    · rw [et, eo]; rfl
    · rw [et, eo]; rfl
  have hB9 : ∀ h1, (z_C h1 hs se sf s s1 nx kp rw ((x_am_append ic fi (((g.2.2.2.2.2.2 (i + 1)).toUInt32 % 65536).toInt32)).2.1) ((x_am_append ic fi (((g.2.2.2.2.2.2 (i + 1)).toUInt32 % 65536).toInt32)).2.2) lc fl ∧ q_zone h h1 100 115) → h1.2 223 = some (.inl (4, 1, .inr (.inl f))) := fun h1 hb => (hb.2.2 _ (by omega) (by omega)).trans c223
  refine q_invSH (mc' := 1) (ms' := 286) (d' := d - 1) (as := [.ref 100, .int (((g.2.2.2.2.2.2 (i + 1)).toUInt32 % 65536).toInt32), .ref 223]) dL_law_2690 kM_L_append kL_L_350 kT_L_append rfl rfl rfl (Nat.le_of_ble_eq_true rfl) (by omega) (by decide) (by omega) (by omega) (e_L_append (d := d - 1) (dd := d - 2) w.1.c0 hB9 ho9 (c_append (g := g) (h := h) (d := d - 2) w ((g.2.2.2.2.2.2 (i + 1)).toUInt32 % 65536).toInt32 (by omega)) (by omega)) (q_kC (fun h1 hB => ?_)) q_xC
  obtain ⟨h0, ⟨wc1, q1⟩, e9⟩ := hB
  obtain ⟨f2, c223b, hf2⟩ := z_outL_c (o := q_oI ((x_am_append ic fi (((g.2.2.2.2.2.2 (i + 1)).toUInt32 % 65536).toInt32)).1)) (hB9 h0 ⟨wc1, q1⟩)
  have qs : q_same h0 h1 223 1 := e9 ▸ z_outL_same
  rw [← e9] at c223b
  clear e9
  have hz : 225 ≤ h.1 := w.2.2.2.2.2.2.2.2.2.s0
  have hz0 : h.1 ≤ h0.1 := q1.1
  have c224b : h1.2 224 = _ := (qs.2 _ (by omega) (by omega)).trans ((q1.2 _ (by omega) (by omega)).trans c224)
  have w1 := wc1.keep (qs.wide (by omega) (by omega))
  have m1 := m.keepI (h1 := h1) (Nat.le_trans q1.1 qs.1) (fun j b1 b2 => (qs.2 j (by omega) (by omega)).trans (q1.2 j (by omega) (by omega)))
  clear wc1 hB9 ho9 m
  change q_W _ _ _ _ _ _ _ _ 2693 [.ref 0, .ref 100, .ref 215, .ref 223, .ref 224, .int (nI i), q_u, q_u, q_u] [.int (z_cd [("java/lang/IllegalArgumentException", 1), ("java/lang/IllegalStateException", 2)] (q_oI ((x_am_append ic fi (((g.2.2.2.2.2.2 (i + 1)).toUInt32 % 65536).toInt32)).1)))] h1
  rw [hcd]
  refine q_istore dL_law_2693 (by decide) rfl ?_
  change q_W _ _ _ _ _ _ _ _ 2695 [.ref 0, .ref 100, .ref 215, .ref 223, .ref 224, .int (nI i), .int ((x_mo_append ip ty (((g.2.2.2.2.2.2 (i + 1)).toUInt32 % 65536).toInt32)).2.1), q_u, q_u] [] h1
  refine q_aload_n (by first | assumption | (rw [q_R0e]; omega)) dL_law_2695 rfl ?_
  refine q_aload_nO ho dL_law_2696 rfl ?_
  refine q_iload dL_law_2697 rfl ?_
  refine q_iconst (v := 1) dL_law_2699 rfl ?_
  refine q_iaddN (a := i) (b := 1) dL_law_2700 ?_
  refine q_taldIN (by decide) dL_law_2701 (rfl : q_ar g 0 = _) (by omega) hN ?_
  change q_W _ _ _ _ _ _ _ _ _ _ [.int (g.2.2.2.2.2.2 (i + 1)), .ref 215] _
  refine q_i2c dL_law_2702 rfl ?_
  refine q_invV (mc' := 0) (ms' := 0) (d' := d - 1) (as := [.int (((g.2.2.2.2.2.2 (i + 1)).toUInt32 % 65536).toInt32)]) dL_law_2703 kM_X11_append kL_L_353 kI_X11_append kS_X11_append rfl (kC_X11.1) m1.c0 rfl rfl (Nat.le_of_ble_eq_true rfl) (by omega) (by decide) (by omega) (by omega) (r_append (g := g) (d := d - 1) m1 e0 hn e3 hm ((g.2.2.2.2.2.2 (i + 1)).toUInt32 % 65536).toInt32 (by omega)) (q_kC (fun h3 hB3 => ?_)) q_xC
  obtain ⟨m3, q3⟩ := hB3
  obtain ⟨rs3, ac3, rj3, ro3, bf3, he3, er3, cm3, cn3, m3⟩ := m3
  change q_W _ _ _ _ _ _ _ _ 2706 [.ref 0, .ref 100, .ref 215, .ref 223, .ref 224, .int (nI i), .int ((x_mo_append ip ty (((g.2.2.2.2.2.2 (i + 1)).toUInt32 % 65536).toInt32)).2.1), q_u, q_u] [.int ((x_mo_append ip ty (((g.2.2.2.2.2.2 (i + 1)).toUInt32 % 65536).toInt32)).1)] h3
  refine q_istore dL_law_2706 (by decide) rfl ?_
  change q_W _ _ _ _ _ _ _ _ 2708 [.ref 0, .ref 100, .ref 215, .ref 223, .ref 224, .int (nI i), .int ((x_mo_append ip ty (((g.2.2.2.2.2.2 (i + 1)).toUInt32 % 65536).toInt32)).2.1), .int ((x_mo_append ip ty (((g.2.2.2.2.2.2 (i + 1)).toUInt32 % 65536).toInt32)).1), q_u] [] h3
  refine q_aload_n (by first | assumption | (rw [q_R0e]; omega)) dL_law_2708 rfl ?_
  refine q_invV (mc' := 0) (ms' := 0) (d' := d - 1) (as := []) dL_law_2709 kM_X11_thrown kL_L_166 kI_X11_thrown kS_X11_thrown rfl (kC_X11.1) m3.c0 rfl rfl (Nat.le_of_ble_eq_true rfl) (by omega) (by decide) (by omega) (by omega) (e_mo_thrownR (d := d - 1) m3 (by omega)) (q_kR ?_) q_xR
  change q_W _ _ _ _ _ _ _ _ 2712 [.ref 0, .ref 100, .ref 215, .ref 223, .ref 224, .int (nI i), .int ((x_mo_append ip ty (((g.2.2.2.2.2.2 (i + 1)).toUInt32 % 65536).toInt32)).2.1), .int ((x_mo_append ip ty (((g.2.2.2.2.2.2 (i + 1)).toUInt32 % 65536).toInt32)).1), q_u] [.int ((x_mo_append ip ty (((g.2.2.2.2.2.2 (i + 1)).toUInt32 % 65536).toInt32)).2.1)] h3
  refine q_iload dL_law_2712 rfl ?_
  refine q_icmp_eq 2719 dL_law_2714 (by decide) (fun _ => ?_) (fun b => absurd rfl b)
  refine q_iload dL_law_2719 rfl ?_
  have hz3 : h1.1 ≤ h3.1 := q3.1
  have hz4 : h0.1 ≤ h1.1 := qs.1
  have fin : q_W g mL_law d mc ms Q (kc + 1) (ks + 286) 2736 [.ref 0, .ref 100, .ref 215, .ref 223, .ref 224, .int (nI i), .int ((x_mo_append ip ty (((g.2.2.2.2.2.2 (i + 1)).toUInt32 % 65536).toInt32)).2.1), .int ((x_mo_append ip ty (((g.2.2.2.2.2.2 (i + 1)).toUInt32 % 65536).toInt32)).1), q_u] [] h3 := by
    refine q_goto 2985 dL_law_2736 (by decide) ?_
    refine q_forget 6 ?_
    refine q_forget 7 ?_
    change q_W _ _ _ _ _ _ _ _ 2985 [.ref 0, .ref 100, .ref 215, .ref 223, .ref 224, .int (nI i), q_u, q_u, q_u] [] h3
    exact q_widen (by omega) (by omega) (K h3 ⟨_, _, _, _, _, _, _, _, _, _, _, _, _, _, _, _, _, _, _, _, _, _, w1.keep (q3.wide (by omega) (by omega)), ⟨_, ⟨_, _, _, _, _, _, _, _, _, m3⟩⟩, ⟨_, (q3.2 _ (by omega) (by omega)).trans c223b⟩, ⟨_, (q3.2 _ (by omega) (by omega)).trans c224b⟩, J2⟩)
  refine q_if_ne 2736 dL_law_2721 (by decide) (fun _ => fin) (fun b => ?_)
  have eo9 : (q_oI ((x_am_append ic fi (((g.2.2.2.2.2.2 (i + 1)).toUInt32 % 65536).toInt32)).1)) = .inl (some (.int ((x_mo_append ip ty (((g.2.2.2.2.2.2 (i + 1)).toUInt32 % 65536).toInt32)).1))) := by
    rcases ag with ⟨et, eo⟩ | ⟨et, eo⟩ | ⟨et, eo⟩
    · exact absurd (et.symm.trans b) (by decide)
    · exact absurd (et.symm.trans b) (by decide)
    · exact eo
  have ev := hf2 _ eo9
  refine q_aload_n (by first | assumption | (rw [q_R0e]; omega)) dL_law_2724 rfl ?_
  refine q_iconst (v := 0) dL_law_2725 rfl ?_
  refine q_lald (f := f2) dL_law_2726 ((q3.2 _ (by omega) (by omega)).trans c223b) (vp_in_nI (n := 0) (N := 1) (by decide) (by decide)) ?_
  change q_W _ _ _ _ _ _ _ _ _ _ [.long (f2 0)] _
  rw [ev]
  refine q_iload dL_law_2727 rfl ?_
  refine q_i2l dL_law_2729 rfl ?_
  refine q_lcmp dL_law_2730 ?_
  rw [z_lcmp]
  exact q_if_eq 2736 dL_law_2731 (by decide) (fun _ => fin) (fun b => absurd rfl b)
set_option maxRecDepth 100000 in
set_option maxHeartbeats 4000000 in
theorem l_c_run {g : q_G} {h : q_H} {d mc ms kc ks i t : Nat} {Q : q_O → q_H → Prop} (hP : z_P_run) (hI : z_I t h) (ht : t < 512) (hi : i + 2 < g.2.2.2.2.2.1) (hN : g.2.2.2.2.2.1 < 2 ^ 31) (ho : q_isold g 0) (hd : 26 ≤ d) (hkc : kc + 66 ≤ mc) (hks : ks + 10588 ≤ ms) (K : ∀ h2, z_I (t + 1) h2 → q_W g mL_law d mc ms Q (kc + 66) (ks + 10588) 2985 [.ref 0, .ref 100, .ref 215, .ref 223, .ref 224, .int (nI i), q_u, q_u, q_u] [] h2) : q_W g mL_law d mc ms Q kc ks 2739 [.ref 0, .ref 100, .ref 215, .ref 223, .ref 224, .int (nI i), q_u, q_u, q_u] [] h := by
  obtain ⟨hs, se, sf, s, s1, nx, kp, rw, ic, fi, lc, fl, al, cg, sv, ad, ln, lz, ip, ty, ea, fa, wc, ⟨th, wm⟩, ⟨f, c223⟩, ⟨fd, c224⟩, J⟩ := hI
  obtain ⟨s2, ca, cj, co, won, lost, pf, cv, sc, pc, pp, po, vb, oa, ob, w⟩ := wc
  obtain ⟨rs, ac, rj, ro, bf, he, er, cm, cn, m⟩ := wm
  obtain ⟨e0, hn, e3, hm⟩ := J.n0
  obtain ⟨Iv, p0, p1, p2, p3, ag, J2⟩ := hP t hs se sf s s1 nx kp rw ic fi lc fl al cg sv ad ln lz ip ty ea fa po vb oa ob rs bf cm  ht J
  refine q_aload_n (by first | assumption | (rw [q_R0e]; omega)) dL_law_2739 rfl ?_
  refine q_aload_n (by first | assumption | (rw [q_R0e]; omega)) dL_law_2740 rfl ?_
  have ho9 : (∃ v, (q_oI ((x_am_run se sf s nx kp rw po vb oa ob ic fi).1)) = .inl (some (.int v))) ∨ (q_oI ((x_am_run se sf s nx kp rw po vb oa ob ic fi).1)) = .inr "java/lang/IllegalArgumentException" ∨ (q_oI ((x_am_run se sf s nx kp rw po vb oa ob ic fi).1)) = .inr "java/lang/IllegalStateException" := by
    rcases ag with ⟨et, eo⟩ | ⟨et, eo⟩ | ⟨et, eo⟩
    · exact Or.inr (Or.inl eo)
    · exact Or.inr (Or.inr (eo))
    · exact Or.inl ⟨_, eo⟩
  have hcd : z_cd [("java/lang/IllegalArgumentException", 1), ("java/lang/IllegalStateException", 2)] (q_oI ((x_am_run se sf s nx kp rw po vb oa ob ic fi).1)) = (x_mo_run al cg rs bf ip ty ea fa cm s.1 s.2.2.2.2.2.2.2.2.1).2.1 := by
    rcases ag with ⟨et, eo⟩ | ⟨et, eo⟩ | ⟨et, eo⟩
    · rw [et, eo]; rfl
    · rw [et, eo]; rfl
    · rw [et, eo]; rfl
  have hB9 : ∀ h1, (z_C h1 hs ((x_am_run se sf s nx kp rw po vb oa ob ic fi).2.1) ((x_am_run se sf s nx kp rw po vb oa ob ic fi).2.2.1) ((x_am_run se sf s nx kp rw po vb oa ob ic fi).2.2.2.1) s1 ((x_am_run se sf s nx kp rw po vb oa ob ic fi).2.2.2.2.1) ((x_am_run se sf s nx kp rw po vb oa ob ic fi).2.2.2.2.2.1) ((x_am_run se sf s nx kp rw po vb oa ob ic fi).2.2.2.2.2.2.1) ((x_am_run se sf s nx kp rw po vb oa ob ic fi).2.2.2.2.2.2.2.2.2.2.2.2.2) fi lc fl ∧ q_zone h h1 100 115) → h1.2 223 = some (.inl (4, 1, .inr (.inl f))) := fun h1 hb => (hb.2.2 _ (by omega) (by omega)).trans c223
  refine q_invSH (mc' := 66) (ms' := 676) (d' := d - 1) (as := [.ref 100, .ref 223]) dL_law_2741 kM_L_run kL_L_354 kT_L_run rfl rfl rfl (Nat.le_of_ble_eq_true rfl) (by omega) (by decide) (by omega) (by omega) (e_L_run (d := d - 1) (dd := d - 2) w.1.c0 hB9 ho9 (c_run (g := g) (h := h) (d := d - 2) w (by omega)) (by omega)) (q_kC (fun h1 hB => ?_)) q_xC
  obtain ⟨h0, ⟨wc1, q1⟩, e9⟩ := hB
  obtain ⟨f2, c223b, hf2⟩ := z_outL_c (o := q_oI ((x_am_run se sf s nx kp rw po vb oa ob ic fi).1)) (hB9 h0 ⟨wc1, q1⟩)
  have qs : q_same h0 h1 223 1 := e9 ▸ z_outL_same
  rw [← e9] at c223b
  clear e9
  have hz : 225 ≤ h.1 := w.2.2.2.2.2.2.2.2.2.s0
  have hz0 : h.1 ≤ h0.1 := q1.1
  have c224b : h1.2 224 = _ := (qs.2 _ (by omega) (by omega)).trans ((q1.2 _ (by omega) (by omega)).trans c224)
  have w1 := wc1.keep (qs.wide (by omega) (by omega))
  have m1 := m.keepI (h1 := h1) (Nat.le_trans q1.1 qs.1) (fun j b1 b2 => (qs.2 j (by omega) (by omega)).trans (q1.2 j (by omega) (by omega)))
  clear wc1 hB9 ho9 m
  change q_W _ _ _ _ _ _ _ _ 2744 [.ref 0, .ref 100, .ref 215, .ref 223, .ref 224, .int (nI i), q_u, q_u, q_u] [.int (z_cd [("java/lang/IllegalArgumentException", 1), ("java/lang/IllegalStateException", 2)] (q_oI ((x_am_run se sf s nx kp rw po vb oa ob ic fi).1)))] h1
  rw [hcd]
  refine q_istore dL_law_2744 (by decide) rfl ?_
  change q_W _ _ _ _ _ _ _ _ 2746 [.ref 0, .ref 100, .ref 215, .ref 223, .ref 224, .int (nI i), .int ((x_mo_run al cg rs bf ip ty ea fa cm s.1 s.2.2.2.2.2.2.2.2.1).2.1), q_u, q_u] [] h1
  refine q_aload_n (by first | assumption | (rw [q_R0e]; omega)) dL_law_2746 rfl ?_
  refine q_invV (mc' := 0) (ms' := 0) (d' := d - 1) (as := []) dL_law_2747 kM_X11_run kL_L_356 kI_X11_run kS_X11_run rfl (kC_X11.1) m1.c0 rfl rfl (Nat.le_of_ble_eq_true rfl) (by omega) (by decide) (by omega) (by omega) (r_run (g := g) (d := d - 1) m1 e0 hn e3 hm Iv p0 p1 p2 p3 (by omega)) (q_kC (fun h3 hB3 => ?_)) q_xC
  obtain ⟨m3, q3⟩ := hB3
  obtain ⟨rs3, ac3, rj3, ro3, bf3, he3, er3, cm3, cn3, m3⟩ := m3
  change q_W _ _ _ _ _ _ _ _ 2750 [.ref 0, .ref 100, .ref 215, .ref 223, .ref 224, .int (nI i), .int ((x_mo_run al cg rs bf ip ty ea fa cm s.1 s.2.2.2.2.2.2.2.2.1).2.1), q_u, q_u] [.int ((x_mo_run al cg rs bf ip ty ea fa cm s.1 s.2.2.2.2.2.2.2.2.1).1)] h3
  refine q_istore dL_law_2750 (by decide) rfl ?_
  change q_W _ _ _ _ _ _ _ _ 2752 [.ref 0, .ref 100, .ref 215, .ref 223, .ref 224, .int (nI i), .int ((x_mo_run al cg rs bf ip ty ea fa cm s.1 s.2.2.2.2.2.2.2.2.1).2.1), .int ((x_mo_run al cg rs bf ip ty ea fa cm s.1 s.2.2.2.2.2.2.2.2.1).1), q_u] [] h3
  refine q_aload_n (by first | assumption | (rw [q_R0e]; omega)) dL_law_2752 rfl ?_
  refine q_invV (mc' := 0) (ms' := 0) (d' := d - 1) (as := []) dL_law_2753 kM_X11_thrown kL_L_166 kI_X11_thrown kS_X11_thrown rfl (kC_X11.1) m3.c0 rfl rfl (Nat.le_of_ble_eq_true rfl) (by omega) (by decide) (by omega) (by omega) (e_mo_thrownR (d := d - 1) m3 (by omega)) (q_kR ?_) q_xR
  change q_W _ _ _ _ _ _ _ _ 2756 [.ref 0, .ref 100, .ref 215, .ref 223, .ref 224, .int (nI i), .int ((x_mo_run al cg rs bf ip ty ea fa cm s.1 s.2.2.2.2.2.2.2.2.1).2.1), .int ((x_mo_run al cg rs bf ip ty ea fa cm s.1 s.2.2.2.2.2.2.2.2.1).1), q_u] [.int ((x_mo_run al cg rs bf ip ty ea fa cm s.1 s.2.2.2.2.2.2.2.2.1).2.1)] h3
  refine q_iload dL_law_2756 rfl ?_
  refine q_icmp_eq 2763 dL_law_2758 (by decide) (fun _ => ?_) (fun b => absurd rfl b)
  refine q_iload dL_law_2763 rfl ?_
  have hz3 : h1.1 ≤ h3.1 := q3.1
  have hz4 : h0.1 ≤ h1.1 := qs.1
  have fin : q_W g mL_law d mc ms Q (kc + 66) (ks + 676) 2780 [.ref 0, .ref 100, .ref 215, .ref 223, .ref 224, .int (nI i), .int ((x_mo_run al cg rs bf ip ty ea fa cm s.1 s.2.2.2.2.2.2.2.2.1).2.1), .int ((x_mo_run al cg rs bf ip ty ea fa cm s.1 s.2.2.2.2.2.2.2.2.1).1), q_u] [] h3 := by
    refine q_goto 2985 dL_law_2780 (by decide) ?_
    refine q_forget 6 ?_
    refine q_forget 7 ?_
    change q_W _ _ _ _ _ _ _ _ 2985 [.ref 0, .ref 100, .ref 215, .ref 223, .ref 224, .int (nI i), q_u, q_u, q_u] [] h3
    exact q_widen (by omega) (by omega) (K h3 ⟨_, _, _, _, _, _, _, _, _, _, _, _, _, _, _, _, _, _, _, _, _, _, w1.keep (q3.wide (by omega) (by omega)), ⟨_, ⟨_, _, _, _, _, _, _, _, _, m3⟩⟩, ⟨_, (q3.2 _ (by omega) (by omega)).trans c223b⟩, ⟨_, (q3.2 _ (by omega) (by omega)).trans c224b⟩, J2⟩)
  refine q_if_ne 2780 dL_law_2765 (by decide) (fun _ => fin) (fun b => ?_)
  have eo9 : (q_oI ((x_am_run se sf s nx kp rw po vb oa ob ic fi).1)) = .inl (some (.int ((x_mo_run al cg rs bf ip ty ea fa cm s.1 s.2.2.2.2.2.2.2.2.1).1))) := by
    rcases ag with ⟨et, eo⟩ | ⟨et, eo⟩ | ⟨et, eo⟩
    · exact absurd (et.symm.trans b) (by decide)
    · exact absurd (et.symm.trans b) (by decide)
    · exact eo
  have ev := hf2 _ eo9
  refine q_aload_n (by first | assumption | (rw [q_R0e]; omega)) dL_law_2768 rfl ?_
  refine q_iconst (v := 0) dL_law_2769 rfl ?_
  refine q_lald (f := f2) dL_law_2770 ((q3.2 _ (by omega) (by omega)).trans c223b) (vp_in_nI (n := 0) (N := 1) (by decide) (by decide)) ?_
  change q_W _ _ _ _ _ _ _ _ _ _ [.long (f2 0)] _
  rw [ev]
  refine q_iload dL_law_2771 rfl ?_
  refine q_i2l dL_law_2773 rfl ?_
  refine q_lcmp dL_law_2774 ?_
  rw [z_lcmp]
  exact q_if_eq 2780 dL_law_2775 (by decide) (fun _ => fin) (fun b => absurd rfl b)
set_option maxRecDepth 100000 in
set_option maxHeartbeats 4000000 in
theorem l_c_errorPosition {g : q_G} {h : q_H} {d mc ms kc ks i t : Nat} {Q : q_O → q_H → Prop} (hP : z_P_errorPosition) (hI : z_I t h) (ht : t < 512) (hi : i + 2 < g.2.2.2.2.2.1) (hN : g.2.2.2.2.2.1 < 2 ^ 31) (ho : q_isold g 0) (hd : 26 ≤ d) (hkc : kc + 66 ≤ mc) (hks : ks + 10588 ≤ ms) (K : ∀ h2, z_I (t + 1) h2 → q_W g mL_law d mc ms Q (kc + 66) (ks + 10588) 2985 [.ref 0, .ref 100, .ref 215, .ref 223, .ref 224, .int (nI i), q_u, q_u, q_u] [] h2) : q_W g mL_law d mc ms Q kc ks 2783 [.ref 0, .ref 100, .ref 215, .ref 223, .ref 224, .int (nI i), q_u, q_u, q_u] [] h := by
  obtain ⟨hs, se, sf, s, s1, nx, kp, rw, ic, fi, lc, fl, al, cg, sv, ad, ln, lz, ip, ty, ea, fa, wc, ⟨th, wm⟩, ⟨f, c223⟩, ⟨fd, c224⟩, J⟩ := hI
  obtain ⟨s2, ca, cj, co, won, lost, pf, cv, sc, pc, pp, po, vb, oa, ob, w⟩ := wc
  obtain ⟨rs, ac, rj, ro, bf, he, er, cm, cn, m⟩ := wm
  obtain ⟨e0, hn, e3, hm⟩ := J.n0
  obtain ⟨ag, J2⟩ := hP t hs se sf s s1 nx kp rw ic fi lc fl al cg sv ad ln lz ip ty ea fa   ht J
  refine q_aload_n (by first | assumption | (rw [q_R0e]; omega)) dL_law_2783 rfl ?_
  refine q_aload_n (by first | assumption | (rw [q_R0e]; omega)) dL_law_2784 rfl ?_
  have ho9 : (∃ v, (q_oI ((x_am_errorPosition se))) = .inl (some (.int v))) ∨ (q_oI ((x_am_errorPosition se))) = .inr "java/util/NoSuchElementException" := by
    rcases ag with ⟨et, eo⟩ | ⟨et, eo⟩
    · exact Or.inr (eo)
    · exact Or.inl ⟨_, eo⟩
  have hcd : z_cd [("java/util/NoSuchElementException", 1)] (q_oI ((x_am_errorPosition se))) = (x_mo_errorPosition ea).2 := by
    rcases ag with ⟨et, eo⟩ | ⟨et, eo⟩
    · rw [et, eo]; rfl
    · rw [et, eo]; rfl
  have hB9 : ∀ h1, (z_C h1 hs se sf s s1 nx kp rw ic fi lc fl ∧ q_zone h h1 100 115) → h1.2 223 = some (.inl (4, 1, .inr (.inl f))) := fun h1 hb => (hb.2.2 _ (by omega) (by omega)).trans c223
  refine q_invSH (mc' := 1) (ms' := 6) (d' := d - 1) (as := [.ref 100, .ref 223]) dL_law_2785 kM_L_errorPosition kL_L_357 kT_L_errorPosition rfl rfl rfl (Nat.le_of_ble_eq_true rfl) (by omega) (by decide) (by omega) (by omega) (e_L_errorPosition (d := d - 1) (dd := d - 2) w.1.c0 hB9 ho9 (c_errorPosition (g := g) (h := h) (d := d - 2) w (by omega)) (by omega)) (q_kC (fun h1 hB => ?_)) q_xC
  obtain ⟨h0, ⟨wc1, q1⟩, e9⟩ := hB
  obtain ⟨f2, c223b, hf2⟩ := z_outL_c (o := q_oI ((x_am_errorPosition se))) (hB9 h0 ⟨wc1, q1⟩)
  have qs : q_same h0 h1 223 1 := e9 ▸ z_outL_same
  rw [← e9] at c223b
  clear e9
  have hz : 225 ≤ h.1 := w.2.2.2.2.2.2.2.2.2.s0
  have hz0 : h.1 ≤ h0.1 := q1.1
  have c224b : h1.2 224 = _ := (qs.2 _ (by omega) (by omega)).trans ((q1.2 _ (by omega) (by omega)).trans c224)
  have w1 := wc1.keep (qs.wide (by omega) (by omega))
  have m1 := m.keepI (h1 := h1) (Nat.le_trans q1.1 qs.1) (fun j b1 b2 => (qs.2 j (by omega) (by omega)).trans (q1.2 j (by omega) (by omega)))
  clear wc1 hB9 ho9 m
  change q_W _ _ _ _ _ _ _ _ 2788 [.ref 0, .ref 100, .ref 215, .ref 223, .ref 224, .int (nI i), q_u, q_u, q_u] [.int (z_cd [("java/util/NoSuchElementException", 1)] (q_oI ((x_am_errorPosition se))))] h1
  rw [hcd]
  refine q_istore dL_law_2788 (by decide) rfl ?_
  change q_W _ _ _ _ _ _ _ _ 2790 [.ref 0, .ref 100, .ref 215, .ref 223, .ref 224, .int (nI i), .int ((x_mo_errorPosition ea).2), q_u, q_u] [] h1
  refine q_aload_n (by first | assumption | (rw [q_R0e]; omega)) dL_law_2790 rfl ?_
  refine q_invV (mc' := 0) (ms' := 0) (d' := d - 1) (as := []) dL_law_2791 kM_X11_errorPosition kL_L_359 kI_X11_errorPosition kS_X11_errorPosition rfl (kC_X11.1) m1.c0 rfl rfl (Nat.le_of_ble_eq_true rfl) (by omega) (by decide) (by omega) (by omega) (r_errorPosition (g := g) (d := d - 1) m1 e0 hn e3 hm (by omega)) (q_kC (fun h3 hB3 => ?_)) q_xC
  obtain ⟨m3, q3⟩ := hB3
  obtain ⟨rs3, ac3, rj3, ro3, bf3, he3, er3, cm3, cn3, m3⟩ := m3
  change q_W _ _ _ _ _ _ _ _ 2794 [.ref 0, .ref 100, .ref 215, .ref 223, .ref 224, .int (nI i), .int ((x_mo_errorPosition ea).2), q_u, q_u] [.int ((x_mo_errorPosition ea).1)] h3
  refine q_istore dL_law_2794 (by decide) rfl ?_
  change q_W _ _ _ _ _ _ _ _ 2796 [.ref 0, .ref 100, .ref 215, .ref 223, .ref 224, .int (nI i), .int ((x_mo_errorPosition ea).2), .int ((x_mo_errorPosition ea).1), q_u] [] h3
  refine q_aload_n (by first | assumption | (rw [q_R0e]; omega)) dL_law_2796 rfl ?_
  refine q_invV (mc' := 0) (ms' := 0) (d' := d - 1) (as := []) dL_law_2797 kM_X11_thrown kL_L_166 kI_X11_thrown kS_X11_thrown rfl (kC_X11.1) m3.c0 rfl rfl (Nat.le_of_ble_eq_true rfl) (by omega) (by decide) (by omega) (by omega) (e_mo_thrownR (d := d - 1) m3 (by omega)) (q_kR ?_) q_xR
  change q_W _ _ _ _ _ _ _ _ 2800 [.ref 0, .ref 100, .ref 215, .ref 223, .ref 224, .int (nI i), .int ((x_mo_errorPosition ea).2), .int ((x_mo_errorPosition ea).1), q_u] [.int ((x_mo_errorPosition ea).2)] h3
  refine q_iload dL_law_2800 rfl ?_
  refine q_icmp_eq 2807 dL_law_2802 (by decide) (fun _ => ?_) (fun b => absurd rfl b)
  refine q_iload dL_law_2807 rfl ?_
  have hz3 : h1.1 ≤ h3.1 := q3.1
  have hz4 : h0.1 ≤ h1.1 := qs.1
  have fin : q_W g mL_law d mc ms Q (kc + 1) (ks + 6) 2824 [.ref 0, .ref 100, .ref 215, .ref 223, .ref 224, .int (nI i), .int ((x_mo_errorPosition ea).2), .int ((x_mo_errorPosition ea).1), q_u] [] h3 := by
    refine q_goto 2985 dL_law_2824 (by decide) ?_
    refine q_forget 6 ?_
    refine q_forget 7 ?_
    change q_W _ _ _ _ _ _ _ _ 2985 [.ref 0, .ref 100, .ref 215, .ref 223, .ref 224, .int (nI i), q_u, q_u, q_u] [] h3
    exact q_widen (by omega) (by omega) (K h3 ⟨_, _, _, _, _, _, _, _, _, _, _, _, _, _, _, _, _, _, _, _, _, _, w1.keep (q3.wide (by omega) (by omega)), ⟨_, ⟨_, _, _, _, _, _, _, _, _, m3⟩⟩, ⟨_, (q3.2 _ (by omega) (by omega)).trans c223b⟩, ⟨_, (q3.2 _ (by omega) (by omega)).trans c224b⟩, J2⟩)
  refine q_if_ne 2824 dL_law_2809 (by decide) (fun _ => fin) (fun b => ?_)
  have eo9 : (q_oI ((x_am_errorPosition se))) = .inl (some (.int ((x_mo_errorPosition ea).1))) := by
    rcases ag with ⟨et, eo⟩ | ⟨et, eo⟩
    · exact absurd (et.symm.trans b) (by decide)
    · exact eo
  have ev := hf2 _ eo9
  refine q_aload_n (by first | assumption | (rw [q_R0e]; omega)) dL_law_2812 rfl ?_
  refine q_iconst (v := 0) dL_law_2813 rfl ?_
  refine q_lald (f := f2) dL_law_2814 ((q3.2 _ (by omega) (by omega)).trans c223b) (vp_in_nI (n := 0) (N := 1) (by decide) (by decide)) ?_
  change q_W _ _ _ _ _ _ _ _ _ _ [.long (f2 0)] _
  rw [ev]
  refine q_iload dL_law_2815 rfl ?_
  refine q_i2l dL_law_2817 rfl ?_
  refine q_lcmp dL_law_2818 ?_
  rw [z_lcmp]
  exact q_if_eq 2824 dL_law_2819 (by decide) (fun _ => fin) (fun b => absurd rfl b)
set_option maxRecDepth 100000 in
set_option maxHeartbeats 4000000 in
theorem l_c_failedCommand {g : q_G} {h : q_H} {d mc ms kc ks i t : Nat} {Q : q_O → q_H → Prop} (hP : z_P_failedCommand) (hI : z_I t h) (ht : t < 512) (hi : i + 2 < g.2.2.2.2.2.1) (hN : g.2.2.2.2.2.1 < 2 ^ 31) (ho : q_isold g 0) (hd : 26 ≤ d) (hkc : kc + 66 ≤ mc) (hks : ks + 10588 ≤ ms) (K : ∀ h2, z_I (t + 1) h2 → q_W g mL_law d mc ms Q (kc + 66) (ks + 10588) 2985 [.ref 0, .ref 100, .ref 215, .ref 223, .ref 224, .int (nI i), q_u, q_u, q_u] [] h2) : q_W g mL_law d mc ms Q kc ks 2827 [.ref 0, .ref 100, .ref 215, .ref 223, .ref 224, .int (nI i), q_u, q_u, q_u] [] h := by
  obtain ⟨hs, se, sf, s, s1, nx, kp, rw, ic, fi, lc, fl, al, cg, sv, ad, ln, lz, ip, ty, ea, fa, wc, ⟨th, wm⟩, ⟨f, c223⟩, ⟨fd, c224⟩, J⟩ := hI
  obtain ⟨s2, ca, cj, co, won, lost, pf, cv, sc, pc, pp, po, vb, oa, ob, w⟩ := wc
  obtain ⟨rs, ac, rj, ro, bf, he, er, cm, cn, m⟩ := wm
  obtain ⟨e0, hn, e3, hm⟩ := J.n0
  obtain ⟨ag, J2⟩ := hP t hs se sf s s1 nx kp rw ic fi lc fl al cg sv ad ln lz ip ty ea fa   ht J
  refine q_aload_n (by first | assumption | (rw [q_R0e]; omega)) dL_law_2827 rfl ?_
  refine q_aload_n (by first | assumption | (rw [q_R0e]; omega)) dL_law_2828 rfl ?_
  have ho9 : (∃ v, (q_oI ((x_am_failedCommand sf))) = .inl (some (.int v))) ∨ (q_oI ((x_am_failedCommand sf))) = .inr "java/util/NoSuchElementException" := by
    rcases ag with ⟨et, eo⟩ | ⟨et, eo⟩
    · exact Or.inr (eo)
    · exact Or.inl ⟨_, eo⟩
  have hcd : z_cd [("java/util/NoSuchElementException", 1)] (q_oI ((x_am_failedCommand sf))) = (x_mo_failedCommand fa).2 := by
    rcases ag with ⟨et, eo⟩ | ⟨et, eo⟩
    · rw [et, eo]; rfl
    · rw [et, eo]; rfl
  have hB9 : ∀ h1, (z_C h1 hs se sf s s1 nx kp rw ic fi lc fl ∧ q_zone h h1 100 115) → h1.2 223 = some (.inl (4, 1, .inr (.inl f))) := fun h1 hb => (hb.2.2 _ (by omega) (by omega)).trans c223
  refine q_invSH (mc' := 1) (ms' := 6) (d' := d - 1) (as := [.ref 100, .ref 223]) dL_law_2829 kM_L_failedCommand kL_L_360 kT_L_failedCommand rfl rfl rfl (Nat.le_of_ble_eq_true rfl) (by omega) (by decide) (by omega) (by omega) (e_L_failedCommand (d := d - 1) (dd := d - 2) w.1.c0 hB9 ho9 (c_failedCommand (g := g) (h := h) (d := d - 2) w (by omega)) (by omega)) (q_kC (fun h1 hB => ?_)) q_xC
  obtain ⟨h0, ⟨wc1, q1⟩, e9⟩ := hB
  obtain ⟨f2, c223b, hf2⟩ := z_outL_c (o := q_oI ((x_am_failedCommand sf))) (hB9 h0 ⟨wc1, q1⟩)
  have qs : q_same h0 h1 223 1 := e9 ▸ z_outL_same
  rw [← e9] at c223b
  clear e9
  have hz : 225 ≤ h.1 := w.2.2.2.2.2.2.2.2.2.s0
  have hz0 : h.1 ≤ h0.1 := q1.1
  have c224b : h1.2 224 = _ := (qs.2 _ (by omega) (by omega)).trans ((q1.2 _ (by omega) (by omega)).trans c224)
  have w1 := wc1.keep (qs.wide (by omega) (by omega))
  have m1 := m.keepI (h1 := h1) (Nat.le_trans q1.1 qs.1) (fun j b1 b2 => (qs.2 j (by omega) (by omega)).trans (q1.2 j (by omega) (by omega)))
  clear wc1 hB9 ho9 m
  change q_W _ _ _ _ _ _ _ _ 2832 [.ref 0, .ref 100, .ref 215, .ref 223, .ref 224, .int (nI i), q_u, q_u, q_u] [.int (z_cd [("java/util/NoSuchElementException", 1)] (q_oI ((x_am_failedCommand sf))))] h1
  rw [hcd]
  refine q_istore dL_law_2832 (by decide) rfl ?_
  change q_W _ _ _ _ _ _ _ _ 2834 [.ref 0, .ref 100, .ref 215, .ref 223, .ref 224, .int (nI i), .int ((x_mo_failedCommand fa).2), q_u, q_u] [] h1
  refine q_aload_n (by first | assumption | (rw [q_R0e]; omega)) dL_law_2834 rfl ?_
  refine q_invV (mc' := 0) (ms' := 0) (d' := d - 1) (as := []) dL_law_2835 kM_X11_failedCommand kL_L_362 kI_X11_failedCommand kS_X11_failedCommand rfl (kC_X11.1) m1.c0 rfl rfl (Nat.le_of_ble_eq_true rfl) (by omega) (by decide) (by omega) (by omega) (r_failedCommand (g := g) (d := d - 1) m1 e0 hn e3 hm (by omega)) (q_kC (fun h3 hB3 => ?_)) q_xC
  obtain ⟨m3, q3⟩ := hB3
  obtain ⟨rs3, ac3, rj3, ro3, bf3, he3, er3, cm3, cn3, m3⟩ := m3
  change q_W _ _ _ _ _ _ _ _ 2838 [.ref 0, .ref 100, .ref 215, .ref 223, .ref 224, .int (nI i), .int ((x_mo_failedCommand fa).2), q_u, q_u] [.int ((x_mo_failedCommand fa).1)] h3
  refine q_istore dL_law_2838 (by decide) rfl ?_
  change q_W _ _ _ _ _ _ _ _ 2840 [.ref 0, .ref 100, .ref 215, .ref 223, .ref 224, .int (nI i), .int ((x_mo_failedCommand fa).2), .int ((x_mo_failedCommand fa).1), q_u] [] h3
  refine q_aload_n (by first | assumption | (rw [q_R0e]; omega)) dL_law_2840 rfl ?_
  refine q_invV (mc' := 0) (ms' := 0) (d' := d - 1) (as := []) dL_law_2841 kM_X11_thrown kL_L_166 kI_X11_thrown kS_X11_thrown rfl (kC_X11.1) m3.c0 rfl rfl (Nat.le_of_ble_eq_true rfl) (by omega) (by decide) (by omega) (by omega) (e_mo_thrownR (d := d - 1) m3 (by omega)) (q_kR ?_) q_xR
  change q_W _ _ _ _ _ _ _ _ 2844 [.ref 0, .ref 100, .ref 215, .ref 223, .ref 224, .int (nI i), .int ((x_mo_failedCommand fa).2), .int ((x_mo_failedCommand fa).1), q_u] [.int ((x_mo_failedCommand fa).2)] h3
  refine q_iload dL_law_2844 rfl ?_
  refine q_icmp_eq 2851 dL_law_2846 (by decide) (fun _ => ?_) (fun b => absurd rfl b)
  refine q_iload dL_law_2851 rfl ?_
  have hz3 : h1.1 ≤ h3.1 := q3.1
  have hz4 : h0.1 ≤ h1.1 := qs.1
  have fin : q_W g mL_law d mc ms Q (kc + 1) (ks + 6) 2868 [.ref 0, .ref 100, .ref 215, .ref 223, .ref 224, .int (nI i), .int ((x_mo_failedCommand fa).2), .int ((x_mo_failedCommand fa).1), q_u] [] h3 := by
    refine q_goto 2985 dL_law_2868 (by decide) ?_
    refine q_forget 6 ?_
    refine q_forget 7 ?_
    change q_W _ _ _ _ _ _ _ _ 2985 [.ref 0, .ref 100, .ref 215, .ref 223, .ref 224, .int (nI i), q_u, q_u, q_u] [] h3
    exact q_widen (by omega) (by omega) (K h3 ⟨_, _, _, _, _, _, _, _, _, _, _, _, _, _, _, _, _, _, _, _, _, _, w1.keep (q3.wide (by omega) (by omega)), ⟨_, ⟨_, _, _, _, _, _, _, _, _, m3⟩⟩, ⟨_, (q3.2 _ (by omega) (by omega)).trans c223b⟩, ⟨_, (q3.2 _ (by omega) (by omega)).trans c224b⟩, J2⟩)
  refine q_if_ne 2868 dL_law_2853 (by decide) (fun _ => fin) (fun b => ?_)
  have eo9 : (q_oI ((x_am_failedCommand sf))) = .inl (some (.int ((x_mo_failedCommand fa).1))) := by
    rcases ag with ⟨et, eo⟩ | ⟨et, eo⟩
    · exact absurd (et.symm.trans b) (by decide)
    · exact eo
  have ev := hf2 _ eo9
  refine q_aload_n (by first | assumption | (rw [q_R0e]; omega)) dL_law_2856 rfl ?_
  refine q_iconst (v := 0) dL_law_2857 rfl ?_
  refine q_lald (f := f2) dL_law_2858 ((q3.2 _ (by omega) (by omega)).trans c223b) (vp_in_nI (n := 0) (N := 1) (by decide) (by decide)) ?_
  change q_W _ _ _ _ _ _ _ _ _ _ [.long (f2 0)] _
  rw [ev]
  refine q_iload dL_law_2859 rfl ?_
  refine q_i2l dL_law_2861 rfl ?_
  refine q_lcmp dL_law_2862 ?_
  rw [z_lcmp]
  exact q_if_eq 2868 dL_law_2863 (by decide) (fun _ => fin) (fun b => absurd rfl b)
set_option maxRecDepth 100000 in
set_option maxHeartbeats 4000000 in
theorem l_c_undoableCount {g : q_G} {h : q_H} {d mc ms kc ks i t : Nat} {Q : q_O → q_H → Prop} (hP : z_P_undoableCount) (hI : z_I t h) (ht : t < 512) (hi : i + 2 < g.2.2.2.2.2.1) (hN : g.2.2.2.2.2.1 < 2 ^ 31) (ho : q_isold g 0) (hd : 26 ≤ d) (hkc : kc + 66 ≤ mc) (hks : ks + 10588 ≤ ms) (K : ∀ h2, z_I (t + 1) h2 → q_W g mL_law d mc ms Q (kc + 66) (ks + 10588) 2985 [.ref 0, .ref 100, .ref 215, .ref 223, .ref 224, .int (nI i), q_u, q_u, q_u] [] h2) : q_W g mL_law d mc ms Q kc ks 2871 [.ref 0, .ref 100, .ref 215, .ref 223, .ref 224, .int (nI i), q_u, q_u, q_u] [] h := by
  obtain ⟨hs, se, sf, s, s1, nx, kp, rw, ic, fi, lc, fl, al, cg, sv, ad, ln, lz, ip, ty, ea, fa, wc, ⟨th, wm⟩, ⟨f, c223⟩, ⟨fd, c224⟩, J⟩ := hI
  obtain ⟨s2, ca, cj, co, won, lost, pf, cv, sc, pc, pp, po, vb, oa, ob, w⟩ := wc
  obtain ⟨rs, ac, rj, ro, bf, he, er, cm, cn, m⟩ := wm
  obtain ⟨e0, hn, e3, hm⟩ := J.n0
  obtain ⟨ag, J2⟩ := hP t hs se sf s s1 nx kp rw ic fi lc fl al cg sv ad ln lz ip ty ea fa   ht J
  refine q_aload_n (by first | assumption | (rw [q_R0e]; omega)) dL_law_2871 rfl ?_
  refine q_invV (mc' := 0) (ms' := 0) (d' := d - 1) (as := []) dL_law_2872 kM_X10_undoableCount kL_L_363 kI_X10_undoableCount kS_X10_undoableCount rfl (kC_X10.1) w.1.c0 rfl rfl (Nat.le_of_ble_eq_true rfl) (by omega) (by decide) (by omega) (by omega) (c_undoableCount (g := g) (h := h) (d := d - 1) w (by omega)) (q_kC (fun h1 hB => ?_)) q_xC
  obtain ⟨w1, q1⟩ := hB
  have hz : 225 ≤ h.1 := w.2.2.2.2.2.2.2.2.2.s0
  have hz0 : h.1 ≤ h1.1 := q1.1
  have m1 := m.keepI (h1 := h1) q1.1 (fun j b1 b2 => q1.2 j (by omega) (by omega))
  have c223b := (q1.2 _ (by omega) (by omega)).trans c223
  have c224b := (q1.2 _ (by omega) (by omega)).trans c224
  change q_W _ _ _ _ _ _ _ _ 2875 [.ref 0, .ref 100, .ref 215, .ref 223, .ref 224, .int (nI i), q_u, q_u, q_u] [.int ((x_am_undoableCount kp))] h1
  rw [ag]
  refine q_aload_n (by first | assumption | (rw [q_R0e]; omega)) dL_law_2875 rfl ?_
  refine q_invV (mc' := 0) (ms' := 0) (d' := d - 1) (as := []) dL_law_2876 kM_X11_undoableCount kL_L_366 kI_X11_undoableCount kS_X11_undoableCount rfl (kC_X11.1) m1.c0 rfl rfl (Nat.le_of_ble_eq_true rfl) (by omega) (by decide) (by omega) (by omega) (r_undoableCount (g := g) (d := d - 1) m1 e0 hn e3 hm (by omega)) (q_kC (fun h3 hB3 => ?_)) q_xC
  obtain ⟨m3, q3⟩ := hB3
  change q_W _ _ _ _ _ _ _ _ 2879 [.ref 0, .ref 100, .ref 215, .ref 223, .ref 224, .int (nI i), q_u, q_u, q_u] [.int ((x_mo_undoableCount cg).1), .int ((x_mo_undoableCount cg).1)] h3
  refine q_icmp_eq 2985 dL_law_2879 (by decide) (fun _ => ?_) (fun b => absurd rfl b)
  exact q_widen (by omega) (by omega) (K h3 ⟨_, _, _, _, _, _, _, _, _, _, _, _, _, _, _, _, _, _, _, _, _, _, w1.keep (q3.wide (by omega) (by omega)), ⟨_, m3⟩, ⟨_, (q3.2 _ (by omega) (by omega)).trans c223b⟩, ⟨_, (q3.2 _ (by omega) (by omega)).trans c224b⟩, J2⟩)
set_option maxRecDepth 100000 in
set_option maxHeartbeats 4000000 in
theorem l_c_undo {g : q_G} {h : q_H} {d mc ms kc ks i t : Nat} {Q : q_O → q_H → Prop} (hP : z_P_undo) (hI : z_I t h) (ht : t < 512) (hi : i + 2 < g.2.2.2.2.2.1) (hN : g.2.2.2.2.2.1 < 2 ^ 31) (ho : q_isold g 0) (hd : 26 ≤ d) (hkc : kc + 66 ≤ mc) (hks : ks + 10588 ≤ ms) (K : ∀ h2, z_I (t + 1) h2 → q_W g mL_law d mc ms Q (kc + 66) (ks + 10588) 2985 [.ref 0, .ref 100, .ref 215, .ref 223, .ref 224, .int (nI i), q_u, q_u, q_u] [] h2) : q_W g mL_law d mc ms Q kc ks 2884 [.ref 0, .ref 100, .ref 215, .ref 223, .ref 224, .int (nI i), q_u, q_u, q_u] [] h := by
  obtain ⟨hs, se, sf, s, s1, nx, kp, rw, ic, fi, lc, fl, al, cg, sv, ad, ln, lz, ip, ty, ea, fa, wc, ⟨th, wm⟩, ⟨f, c223⟩, ⟨fd, c224⟩, J⟩ := hI
  obtain ⟨s2, ca, cj, co, won, lost, pf, cv, sc, pc, pp, po, vb, oa, ob, w⟩ := wc
  obtain ⟨rs, ac, rj, ro, bf, he, er, cm, cn, m⟩ := wm
  obtain ⟨e0, hn, e3, hm⟩ := J.n0
  obtain ⟨ag, J2⟩ := hP t hs se sf s s1 nx kp rw ic fi lc fl al cg sv ad ln lz ip ty ea fa   ht J
  refine q_aload_n (by first | assumption | (rw [q_R0e]; omega)) dL_law_2884 rfl ?_
  refine q_aload_n (by first | assumption | (rw [q_R0e]; omega)) dL_law_2885 rfl ?_
  have ho9 : (∃ v, (q_oI ((x_am_undo s nx kp rw).1)) = .inl (some (.int v))) ∨ (q_oI ((x_am_undo s nx kp rw).1)) = .inr "java/lang/IllegalStateException" := by
    rcases ag with ⟨et, eo⟩ | ⟨et, eo⟩
    · exact Or.inr (eo)
    · exact Or.inl ⟨_, eo⟩
  have hcd : z_cd [("java/lang/IllegalStateException", 1)] (q_oI ((x_am_undo s nx kp rw).1)) = (x_mo_undo al cg).2.1 := by
    rcases ag with ⟨et, eo⟩ | ⟨et, eo⟩
    · rw [et, eo]; rfl
    · rw [et, eo]; rfl
  have hB9 : ∀ h1, (z_C h1 hs se sf ((x_am_undo s nx kp rw).2.1) s1 ((x_am_undo s nx kp rw).2.2.1) ((x_am_undo s nx kp rw).2.2.2) rw ic fi lc fl ∧ q_zone h h1 100 115) → h1.2 223 = some (.inl (4, 1, .inr (.inl f))) := fun h1 hb => (hb.2.2 _ (by omega) (by omega)).trans c223
  refine q_invSH (mc' := 1) (ms' := 6) (d' := d - 1) (as := [.ref 100, .ref 223]) dL_law_2886 kM_L_undo kL_L_367 kT_L_undo rfl rfl rfl (Nat.le_of_ble_eq_true rfl) (by omega) (by decide) (by omega) (by omega) (e_L_undo (d := d - 1) (dd := d - 2) w.1.c0 hB9 ho9 (c_undo (g := g) (h := h) (d := d - 2) w (by omega)) (by omega)) (q_kC (fun h1 hB => ?_)) q_xC
  obtain ⟨h0, ⟨wc1, q1⟩, e9⟩ := hB
  obtain ⟨f2, c223b, hf2⟩ := z_outL_c (o := q_oI ((x_am_undo s nx kp rw).1)) (hB9 h0 ⟨wc1, q1⟩)
  have qs : q_same h0 h1 223 1 := e9 ▸ z_outL_same
  rw [← e9] at c223b
  clear e9
  have hz : 225 ≤ h.1 := w.2.2.2.2.2.2.2.2.2.s0
  have hz0 : h.1 ≤ h0.1 := q1.1
  have c224b : h1.2 224 = _ := (qs.2 _ (by omega) (by omega)).trans ((q1.2 _ (by omega) (by omega)).trans c224)
  have w1 := wc1.keep (qs.wide (by omega) (by omega))
  have m1 := m.keepI (h1 := h1) (Nat.le_trans q1.1 qs.1) (fun j b1 b2 => (qs.2 j (by omega) (by omega)).trans (q1.2 j (by omega) (by omega)))
  clear wc1 hB9 ho9 m
  change q_W _ _ _ _ _ _ _ _ 2889 [.ref 0, .ref 100, .ref 215, .ref 223, .ref 224, .int (nI i), q_u, q_u, q_u] [.int (z_cd [("java/lang/IllegalStateException", 1)] (q_oI ((x_am_undo s nx kp rw).1)))] h1
  rw [hcd]
  refine q_istore dL_law_2889 (by decide) rfl ?_
  change q_W _ _ _ _ _ _ _ _ 2891 [.ref 0, .ref 100, .ref 215, .ref 223, .ref 224, .int (nI i), .int ((x_mo_undo al cg).2.1), q_u, q_u] [] h1
  refine q_aload_n (by first | assumption | (rw [q_R0e]; omega)) dL_law_2891 rfl ?_
  refine q_invV (mc' := 0) (ms' := 0) (d' := d - 1) (as := []) dL_law_2892 kM_X11_undo kL_L_369 kI_X11_undo kS_X11_undo rfl (kC_X11.1) m1.c0 rfl rfl (Nat.le_of_ble_eq_true rfl) (by omega) (by decide) (by omega) (by omega) (r_undo (g := g) (d := d - 1) m1 e0 hn e3 hm (by omega)) (q_kC (fun h3 hB3 => ?_)) q_xC
  obtain ⟨m3, q3⟩ := hB3
  obtain ⟨rs3, ac3, rj3, ro3, bf3, he3, er3, cm3, cn3, m3⟩ := m3
  change q_W _ _ _ _ _ _ _ _ 2895 [.ref 0, .ref 100, .ref 215, .ref 223, .ref 224, .int (nI i), .int ((x_mo_undo al cg).2.1), q_u, q_u] [.int ((x_mo_undo al cg).1)] h3
  refine q_istore dL_law_2895 (by decide) rfl ?_
  change q_W _ _ _ _ _ _ _ _ 2897 [.ref 0, .ref 100, .ref 215, .ref 223, .ref 224, .int (nI i), .int ((x_mo_undo al cg).2.1), .int ((x_mo_undo al cg).1), q_u] [] h3
  refine q_aload_n (by first | assumption | (rw [q_R0e]; omega)) dL_law_2897 rfl ?_
  refine q_invV (mc' := 0) (ms' := 0) (d' := d - 1) (as := []) dL_law_2898 kM_X11_thrown kL_L_166 kI_X11_thrown kS_X11_thrown rfl (kC_X11.1) m3.c0 rfl rfl (Nat.le_of_ble_eq_true rfl) (by omega) (by decide) (by omega) (by omega) (e_mo_thrownR (d := d - 1) m3 (by omega)) (q_kR ?_) q_xR
  change q_W _ _ _ _ _ _ _ _ 2901 [.ref 0, .ref 100, .ref 215, .ref 223, .ref 224, .int (nI i), .int ((x_mo_undo al cg).2.1), .int ((x_mo_undo al cg).1), q_u] [.int ((x_mo_undo al cg).2.1)] h3
  refine q_iload dL_law_2901 rfl ?_
  refine q_icmp_eq 2908 dL_law_2903 (by decide) (fun _ => ?_) (fun b => absurd rfl b)
  refine q_iload dL_law_2908 rfl ?_
  have hz3 : h1.1 ≤ h3.1 := q3.1
  have hz4 : h0.1 ≤ h1.1 := qs.1
  have fin : q_W g mL_law d mc ms Q (kc + 1) (ks + 6) 2925 [.ref 0, .ref 100, .ref 215, .ref 223, .ref 224, .int (nI i), .int ((x_mo_undo al cg).2.1), .int ((x_mo_undo al cg).1), q_u] [] h3 := by
    refine q_goto 2985 dL_law_2925 (by decide) ?_
    refine q_forget 6 ?_
    refine q_forget 7 ?_
    change q_W _ _ _ _ _ _ _ _ 2985 [.ref 0, .ref 100, .ref 215, .ref 223, .ref 224, .int (nI i), q_u, q_u, q_u] [] h3
    exact q_widen (by omega) (by omega) (K h3 ⟨_, _, _, _, _, _, _, _, _, _, _, _, _, _, _, _, _, _, _, _, _, _, w1.keep (q3.wide (by omega) (by omega)), ⟨_, ⟨_, _, _, _, _, _, _, _, _, m3⟩⟩, ⟨_, (q3.2 _ (by omega) (by omega)).trans c223b⟩, ⟨_, (q3.2 _ (by omega) (by omega)).trans c224b⟩, J2⟩)
  refine q_if_ne 2925 dL_law_2910 (by decide) (fun _ => fin) (fun b => ?_)
  have eo9 : (q_oI ((x_am_undo s nx kp rw).1)) = .inl (some (.int ((x_mo_undo al cg).1))) := by
    rcases ag with ⟨et, eo⟩ | ⟨et, eo⟩
    · exact absurd (et.symm.trans b) (by decide)
    · exact eo
  have ev := hf2 _ eo9
  refine q_aload_n (by first | assumption | (rw [q_R0e]; omega)) dL_law_2913 rfl ?_
  refine q_iconst (v := 0) dL_law_2914 rfl ?_
  refine q_lald (f := f2) dL_law_2915 ((q3.2 _ (by omega) (by omega)).trans c223b) (vp_in_nI (n := 0) (N := 1) (by decide) (by decide)) ?_
  change q_W _ _ _ _ _ _ _ _ _ _ [.long (f2 0)] _
  rw [ev]
  refine q_iload dL_law_2916 rfl ?_
  refine q_i2l dL_law_2918 rfl ?_
  refine q_lcmp dL_law_2919 ?_
  rw [z_lcmp]
  exact q_if_eq 2925 dL_law_2920 (by decide) (fun _ => fin) (fun b => absurd rfl b)
set_option maxRecDepth 100000 in
set_option maxHeartbeats 4000000 in
theorem l_c_save {g : q_G} {h : q_H} {d mc ms kc ks i t : Nat} {Q : q_O → q_H → Prop} (hP : z_P_save) (hI : z_I t h) (ht : t < 512) (hi : i + 2 < g.2.2.2.2.2.1) (hN : g.2.2.2.2.2.1 < 2 ^ 31) (ho : q_isold g 0) (hd : 26 ≤ d) (hkc : kc + 66 ≤ mc) (hks : ks + 10588 ≤ ms) (K : ∀ h2, z_I (t + 1) h2 → q_W g mL_law d mc ms Q (kc + 66) (ks + 10588) 2985 [.ref 0, .ref 100, .ref 215, .ref 223, .ref 224, .int (nI i), q_u, q_u, q_u] [] h2) : q_W g mL_law d mc ms Q kc ks 2928 [.ref 0, .ref 100, .ref 215, .ref 223, .ref 224, .int (nI i), q_u, q_u, q_u] [] h := by
  obtain ⟨hs, se, sf, s, s1, nx, kp, rw, ic, fi, lc, fl, al, cg, sv, ad, ln, lz, ip, ty, ea, fa, wc, ⟨th, wm⟩, ⟨f, c223⟩, ⟨fd, c224⟩, J⟩ := hI
  obtain ⟨s2, ca, cj, co, won, lost, pf, cv, sc, pc, pp, po, vb, oa, ob, w⟩ := wc
  obtain ⟨rs, ac, rj, ro, bf, he, er, cm, cn, m⟩ := wm
  obtain ⟨e0, hn, e3, hm⟩ := J.n0
  obtain ⟨ag, J2⟩ := hP t hs se sf s s1 nx kp rw ic fi lc fl al cg sv ad ln lz ip ty ea fa   ht J
  refine q_aload_n (by first | assumption | (rw [q_R0e]; omega)) dL_law_2928 rfl ?_
  refine q_invV (mc' := 0) (ms' := 0) (d' := d - 1) (as := []) dL_law_2929 kM_X10_save kL_L_370 kI_X10_save kS_X10_save rfl (kC_X10.1) w.1.c0 rfl rfl (Nat.le_of_ble_eq_true rfl) (by omega) (by decide) (by omega) (by omega) (c_save (g := g) (h := h) (d := d - 1) w (by omega)) (q_kC (fun h1 hB => ?_)) q_xC
  obtain ⟨w1, q1⟩ := hB
  have hz : 225 ≤ h.1 := w.2.2.2.2.2.2.2.2.2.s0
  have hz0 : h.1 ≤ h1.1 := q1.1
  have m1 := m.keepI (h1 := h1) q1.1 (fun j b1 b2 => q1.2 j (by omega) (by omega))
  have c223b := (q1.2 _ (by omega) (by omega)).trans c223
  have c224b := (q1.2 _ (by omega) (by omega)).trans c224
  change q_W _ _ _ _ _ _ _ _ 2932 [.ref 0, .ref 100, .ref 215, .ref 223, .ref 224, .int (nI i), q_u, q_u, q_u] [.int ((x_am_save s.1 s.2.1 s.2.2.1 s.2.2.2.1 s.2.2.2.2.1 s.2.2.2.2.2.1 s.2.2.2.2.2.2.1 s.2.2.2.2.2.2.2.1 s.2.2.2.2.2.2.2.2.1 s.2.2.2.2.2.2.2.2.2.1 s.2.2.2.2.2.2.2.2.2.2.1 s.2.2.2.2.2.2.2.2.2.2.2.1 s.2.2.2.2.2.2.2.2.2.2.2.2 s1).1)] h1
  rw [ag]
  refine q_aload_n (by first | assumption | (rw [q_R0e]; omega)) dL_law_2932 rfl ?_
  refine q_invV (mc' := 0) (ms' := 0) (d' := d - 1) (as := []) dL_law_2933 kM_X11_save kL_L_373 kI_X11_save kS_X11_save rfl (kC_X11.1) m1.c0 rfl rfl (Nat.le_of_ble_eq_true rfl) (by omega) (by decide) (by omega) (by omega) (r_save (g := g) (d := d - 1) m1 e0 hn e3 hm (by omega)) (q_kC (fun h3 hB3 => ?_)) q_xC
  obtain ⟨m3, q3⟩ := hB3
  change q_W _ _ _ _ _ _ _ _ 2936 [.ref 0, .ref 100, .ref 215, .ref 223, .ref 224, .int (nI i), q_u, q_u, q_u] [.int ((x_mo_save al).1), .int ((x_mo_save al).1)] h3
  refine q_icmp_eq 2985 dL_law_2936 (by decide) (fun _ => ?_) (fun b => absurd rfl b)
  exact q_widen (by omega) (by omega) (K h3 ⟨_, _, _, _, _, _, _, _, _, _, _, _, _, _, _, _, _, _, _, _, _, _, w1.keep (q3.wide (by omega) (by omega)), ⟨_, m3⟩, ⟨_, (q3.2 _ (by omega) (by omega)).trans c223b⟩, ⟨_, (q3.2 _ (by omega) (by omega)).trans c224b⟩, J2⟩)
set_option maxRecDepth 100000 in
set_option maxHeartbeats 4000000 in
theorem l_c_restore {g : q_G} {h : q_H} {d mc ms kc ks i t : Nat} {Q : q_O → q_H → Prop} (hP : z_P_restore) (hI : z_I t h) (ht : t < 512) (hi : i + 2 < g.2.2.2.2.2.1) (hN : g.2.2.2.2.2.1 < 2 ^ 31) (ho : q_isold g 0) (hd : 26 ≤ d) (hkc : kc + 66 ≤ mc) (hks : ks + 10588 ≤ ms) (K : ∀ h2, z_I (t + 1) h2 → q_W g mL_law d mc ms Q (kc + 66) (ks + 10588) 2985 [.ref 0, .ref 100, .ref 215, .ref 223, .ref 224, .int (nI i), q_u, q_u, q_u] [] h2) : q_W g mL_law d mc ms Q kc ks 2941 [.ref 0, .ref 100, .ref 215, .ref 223, .ref 224, .int (nI i), q_u, q_u, q_u] [] h := by
  obtain ⟨hs, se, sf, s, s1, nx, kp, rw, ic, fi, lc, fl, al, cg, sv, ad, ln, lz, ip, ty, ea, fa, wc, ⟨th, wm⟩, ⟨f, c223⟩, ⟨fd, c224⟩, J⟩ := hI
  obtain ⟨s2, ca, cj, co, won, lost, pf, cv, sc, pc, pp, po, vb, oa, ob, w⟩ := wc
  obtain ⟨rs, ac, rj, ro, bf, he, er, cm, cn, m⟩ := wm
  obtain ⟨e0, hn, e3, hm⟩ := J.n0
  obtain ⟨ag, J2⟩ := hP t hs se sf s s1 nx kp rw ic fi lc fl al cg sv ad ln lz ip ty ea fa   ht J
  refine q_aload_n (by first | assumption | (rw [q_R0e]; omega)) dL_law_2941 rfl ?_
  refine q_aload_n (by first | assumption | (rw [q_R0e]; omega)) dL_law_2942 rfl ?_
  have ho9 : (∃ v, (q_oI ((x_am_restore hs s s1 kp).1)) = .inl (some (.int v))) ∨ (q_oI ((x_am_restore hs s s1 kp).1)) = .inr "java/lang/IllegalStateException" := by
    rcases ag with ⟨et, eo⟩ | ⟨et, eo⟩
    · exact Or.inr (eo)
    · exact Or.inl ⟨_, eo⟩
  have hcd : z_cd [("java/lang/IllegalStateException", 1)] (q_oI ((x_am_restore hs s s1 kp).1)) = (x_mo_restore al cg sv).2.1 := by
    rcases ag with ⟨et, eo⟩ | ⟨et, eo⟩
    · rw [et, eo]; rfl
    · rw [et, eo]; rfl
  have hB9 : ∀ h1, (z_C h1 hs se sf ((x_am_restore hs s s1 kp).2.1) s1 nx ((x_am_restore hs s s1 kp).2.2) rw ic fi lc fl ∧ q_zone h h1 100 115) → h1.2 223 = some (.inl (4, 1, .inr (.inl f))) := fun h1 hb => (hb.2.2 _ (by omega) (by omega)).trans c223
  refine q_invSH (mc' := 1) (ms' := 6) (d' := d - 1) (as := [.ref 100, .ref 223]) dL_law_2943 kM_L_restore kL_L_374 kT_L_restore rfl rfl rfl (Nat.le_of_ble_eq_true rfl) (by omega) (by decide) (by omega) (by omega) (e_L_restore (d := d - 1) (dd := d - 2) w.1.c0 hB9 ho9 (c_restore (g := g) (h := h) (d := d - 2) w (by omega)) (by omega)) (q_kC (fun h1 hB => ?_)) q_xC
  obtain ⟨h0, ⟨wc1, q1⟩, e9⟩ := hB
  obtain ⟨f2, c223b, hf2⟩ := z_outL_c (o := q_oI ((x_am_restore hs s s1 kp).1)) (hB9 h0 ⟨wc1, q1⟩)
  have qs : q_same h0 h1 223 1 := e9 ▸ z_outL_same
  rw [← e9] at c223b
  clear e9
  have hz : 225 ≤ h.1 := w.2.2.2.2.2.2.2.2.2.s0
  have hz0 : h.1 ≤ h0.1 := q1.1
  have c224b : h1.2 224 = _ := (qs.2 _ (by omega) (by omega)).trans ((q1.2 _ (by omega) (by omega)).trans c224)
  have w1 := wc1.keep (qs.wide (by omega) (by omega))
  have m1 := m.keepI (h1 := h1) (Nat.le_trans q1.1 qs.1) (fun j b1 b2 => (qs.2 j (by omega) (by omega)).trans (q1.2 j (by omega) (by omega)))
  clear wc1 hB9 ho9 m
  change q_W _ _ _ _ _ _ _ _ 2946 [.ref 0, .ref 100, .ref 215, .ref 223, .ref 224, .int (nI i), q_u, q_u, q_u] [.int (z_cd [("java/lang/IllegalStateException", 1)] (q_oI ((x_am_restore hs s s1 kp).1)))] h1
  rw [hcd]
  refine q_istore dL_law_2946 (by decide) rfl ?_
  change q_W _ _ _ _ _ _ _ _ 2948 [.ref 0, .ref 100, .ref 215, .ref 223, .ref 224, .int (nI i), .int ((x_mo_restore al cg sv).2.1), q_u, q_u] [] h1
  refine q_aload_n (by first | assumption | (rw [q_R0e]; omega)) dL_law_2948 rfl ?_
  refine q_invV (mc' := 0) (ms' := 0) (d' := d - 1) (as := []) dL_law_2949 kM_X11_restore kL_L_376 kI_X11_restore kS_X11_restore rfl (kC_X11.1) m1.c0 rfl rfl (Nat.le_of_ble_eq_true rfl) (by omega) (by decide) (by omega) (by omega) (r_restore (g := g) (d := d - 1) m1 e0 hn e3 hm (by omega)) (q_kC (fun h3 hB3 => ?_)) q_xC
  obtain ⟨m3, q3⟩ := hB3
  obtain ⟨rs3, ac3, rj3, ro3, bf3, he3, er3, cm3, cn3, m3⟩ := m3
  change q_W _ _ _ _ _ _ _ _ 2952 [.ref 0, .ref 100, .ref 215, .ref 223, .ref 224, .int (nI i), .int ((x_mo_restore al cg sv).2.1), q_u, q_u] [.int ((x_mo_restore al cg sv).1)] h3
  refine q_istore dL_law_2952 (by decide) rfl ?_
  change q_W _ _ _ _ _ _ _ _ 2954 [.ref 0, .ref 100, .ref 215, .ref 223, .ref 224, .int (nI i), .int ((x_mo_restore al cg sv).2.1), .int ((x_mo_restore al cg sv).1), q_u] [] h3
  refine q_aload_n (by first | assumption | (rw [q_R0e]; omega)) dL_law_2954 rfl ?_
  refine q_invV (mc' := 0) (ms' := 0) (d' := d - 1) (as := []) dL_law_2955 kM_X11_thrown kL_L_166 kI_X11_thrown kS_X11_thrown rfl (kC_X11.1) m3.c0 rfl rfl (Nat.le_of_ble_eq_true rfl) (by omega) (by decide) (by omega) (by omega) (e_mo_thrownR (d := d - 1) m3 (by omega)) (q_kR ?_) q_xR
  change q_W _ _ _ _ _ _ _ _ 2958 [.ref 0, .ref 100, .ref 215, .ref 223, .ref 224, .int (nI i), .int ((x_mo_restore al cg sv).2.1), .int ((x_mo_restore al cg sv).1), q_u] [.int ((x_mo_restore al cg sv).2.1)] h3
  refine q_iload dL_law_2958 rfl ?_
  refine q_icmp_eq 2965 dL_law_2960 (by decide) (fun _ => ?_) (fun b => absurd rfl b)
  refine q_iload dL_law_2965 rfl ?_
  have hz3 : h1.1 ≤ h3.1 := q3.1
  have hz4 : h0.1 ≤ h1.1 := qs.1
  have fin : q_W g mL_law d mc ms Q (kc + 1) (ks + 6) 2982 [.ref 0, .ref 100, .ref 215, .ref 223, .ref 224, .int (nI i), .int ((x_mo_restore al cg sv).2.1), .int ((x_mo_restore al cg sv).1), q_u] [] h3 := by
    refine q_goto 2985 dL_law_2982 (by decide) ?_
    refine q_forget 6 ?_
    refine q_forget 7 ?_
    change q_W _ _ _ _ _ _ _ _ 2985 [.ref 0, .ref 100, .ref 215, .ref 223, .ref 224, .int (nI i), q_u, q_u, q_u] [] h3
    exact q_widen (by omega) (by omega) (K h3 ⟨_, _, _, _, _, _, _, _, _, _, _, _, _, _, _, _, _, _, _, _, _, _, w1.keep (q3.wide (by omega) (by omega)), ⟨_, ⟨_, _, _, _, _, _, _, _, _, m3⟩⟩, ⟨_, (q3.2 _ (by omega) (by omega)).trans c223b⟩, ⟨_, (q3.2 _ (by omega) (by omega)).trans c224b⟩, J2⟩)
  refine q_if_ne 2982 dL_law_2967 (by decide) (fun _ => fin) (fun b => ?_)
  have eo9 : (q_oI ((x_am_restore hs s s1 kp).1)) = .inl (some (.int ((x_mo_restore al cg sv).1))) := by
    rcases ag with ⟨et, eo⟩ | ⟨et, eo⟩
    · exact absurd (et.symm.trans b) (by decide)
    · exact eo
  have ev := hf2 _ eo9
  refine q_aload_n (by first | assumption | (rw [q_R0e]; omega)) dL_law_2970 rfl ?_
  refine q_iconst (v := 0) dL_law_2971 rfl ?_
  refine q_lald (f := f2) dL_law_2972 ((q3.2 _ (by omega) (by omega)).trans c223b) (vp_in_nI (n := 0) (N := 1) (by decide) (by decide)) ?_
  change q_W _ _ _ _ _ _ _ _ _ _ [.long (f2 0)] _
  rw [ev]
  refine q_iload dL_law_2973 rfl ?_
  refine q_i2l dL_law_2975 rfl ?_
  refine q_lcmp dL_law_2976 ?_
  rw [z_lcmp]
  exact q_if_eq 2982 dL_law_2977 (by decide) (fun _ => fin) (fun b => absurd rfl b)