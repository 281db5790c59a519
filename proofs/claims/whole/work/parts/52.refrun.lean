section MONO
variable {ip : Nat → Int32} {ty he a : Nat} {er b v xs xa xb xc : Int32}
theorem z_ndE (h : x_mo_needs ip ty he er xs = (a, b)) : he ≤ a := by
  unfold x_mo_needs at h
  repeat' (split at h)
  all_goals (cases h; omega)
theorem z_ltE (h : x_mo_letters ip ty he er xa xb xc = (a, b)) : he ≤ a := by
  unfold x_mo_letters at h
  repeat' (split at h)
  cases h
  exact Nat.le_trans (z_ndE (by with_reducible assumption)) (Nat.le_trans (z_ndE (by with_reducible assumption)) (z_ndE (by with_reducible assumption)))
theorem z_bh43 : ∀ (r k : Nat) (c : Int32) (he : Nat), he ≤ (x_mo_behind_43 ip ty r k c he).2 := by
  intro r
  induction r with
  | zero => intros; exact Nat.le_refl _
  | succ r ih =>
    intro k c he
    simp only [x_mo_behind_43]
    split
    · exact Nat.le_trans (Nat.le_succ _) (ih _ _ _)
    · exact Nat.le_refl _
theorem z_bhE {mx : Nat} (h : x_mo_behind ip ty he er xs mx = (v, a, b)) : he ≤ a := by
  unfold x_mo_behind at h
  split at h
  next y1 y2 h1 =>
  have e1 := z_ndE h1
  split at h
  · split at h
    · split at h
      next c1 c2 h2 =>
      have e2 := z_bh43 (ip := ip) (ty := ty) mx 0 0 y1
      rw [h2] at e2
      cases h
      exact Nat.le_trans e1 e2
    · cases h
      exact e1
  · cases h
    exact e1
theorem z_agE (h : x_mo_again ip ty he er = (v, a, b)) : he ≤ a := by
  unfold x_mo_again at h
  repeat' (split at h)
  all_goals cases h
  all_goals first | exact z_ndE (by with_reducible assumption) | exact Nat.le_trans (z_ndE (by with_reducible assumption)) (z_ltE (by with_reducible assumption)) | exact Nat.le_trans (z_ndE (by with_reducible assumption)) (Nat.le_trans (z_ltE (by with_reducible assumption)) (z_ndE (by with_reducible assumption)))
theorem z_wdE (h : x_mo_word ip ty he er xs = (v, a, b)) : he ≤ a := by
  unfold x_mo_word at h
  repeat' (split at h)
  all_goals cases h
  all_goals first | exact z_ltE (by with_reducible assumption) | exact z_agE (by with_reducible assumption) | exact Nat.le_trans (z_ltE (by with_reducible assumption)) (z_ndE (by with_reducible assumption)) | exact Nat.le_trans (z_ndE (by with_reducible assumption)) (z_ndE (by with_reducible assumption)) | exact Nat.le_trans (z_ltE (by with_reducible assumption)) (Nat.le_trans (z_ndE (by with_reducible assumption)) (z_ndE (by with_reducible assumption)))
theorem z_cmE {cm c : Nat → Int32} {cn d : Nat} (h : x_mo_command ip ty he er cm cn = (a, b, c, d)) : he ≤ a ∧ d = cn + 1 := by
  unfold x_mo_command at h
  generalize x_mo_command_24 cn 3 0 cm = a3 at h
  dsimp only at h
  by_cases c1 : x_mo_isFirst (x_mo_sign ip ty he) = true
  · rw [if_pos c1] at h
    rcases hw : x_mo_word ip ty (he + 1) er (x_mo_sign ip ty he) with ⟨v7, y7, e7⟩
    rw [hw] at h
    dsimp only at h
    have e1 := z_wdE hw
    clear hw
    by_cases d0 : v7 = 97
    · rw [if_pos d0] at h
      rcases hb0 : x_mo_behind ip ty y7 e7 32 1 with ⟨v0, z0, g0⟩
      rw [hb0] at h
      dsimp only at h
      have f0 := z_bhE hb0
      clear hb0
      injection h with h1 h2
      injection h2 with h2 h3
      injection h3 with h3 h4
      exact ⟨by omega, h4.symm⟩
    · rw [if_neg d0] at h
      by_cases d1 : v7 = 98
      · rw [if_pos d1] at h
        injection h with h1 h2
        injection h2 with h2 h3
        injection h3 with h3 h4
        exact ⟨by omega, h4.symm⟩
      · rw [if_neg d1] at h
        by_cases d2 : v7 = 101
        · rw [if_pos d2] at h
          injection h with h1 h2
          injection h2 with h2 h3
          injection h3 with h3 h4
          exact ⟨by omega, h4.symm⟩
        · rw [if_neg d2] at h
          by_cases d3 : v7 = 116
          · rw [if_pos d3] at h
            rcases hb0 : x_mo_behind ip ty y7 e7 32 2 with ⟨v0, z0, g0⟩
            rw [hb0] at h
            dsimp only at h
            have f0 := z_bhE hb0
            clear hb0
            rcases hb1 : x_mo_behind ip ty z0 g0 62 2 with ⟨v1, z1, g1⟩
            rw [hb1] at h
            dsimp only at h
            have f1 := z_bhE hb1
            clear hb1
            injection h with h1 h2
            injection h2 with h2 h3
            injection h3 with h3 h4
            exact ⟨by omega, h4.symm⟩
          · rw [if_neg d3] at h
            by_cases d4 : v7 = 119
            · rw [if_pos d4] at h
              rcases hb0 : x_mo_behind ip ty y7 e7 32 2 with ⟨v0, z0, g0⟩
              rw [hb0] at h
              dsimp only at h
              have f0 := z_bhE hb0
              clear hb0
              rcases hb1 : x_mo_behind ip ty z0 g0 32 1 with ⟨v1, z1, g1⟩
              rw [hb1] at h
              dsimp only at h
              have f1 := z_bhE hb1
              clear hb1
              injection h with h1 h2
              injection h2 with h2 h3
              injection h3 with h3 h4
              exact ⟨by omega, h4.symm⟩
            · rw [if_neg d4] at h
              by_cases d5 : v7 = 121
              · rw [if_pos d5] at h
                rcases hb0 : x_mo_behind ip ty y7 e7 32 2 with ⟨v0, z0, g0⟩
                rw [hb0] at h
                dsimp only at h
                have f0 := z_bhE hb0
                clear hb0
                rcases hb1 : x_mo_behind ip ty z0 g0 62 2 with ⟨v1, z1, g1⟩
                rw [hb1] at h
                dsimp only at h
                have f1 := z_bhE hb1
                clear hb1
                injection h with h1 h2
                injection h2 with h2 h3
                injection h3 with h3 h4
                exact ⟨by omega, h4.symm⟩
              · rw [if_neg d5] at h
                rcases hb0 : x_mo_behind ip ty y7 e7 32 2 with ⟨v0, z0, g0⟩
                rw [hb0] at h
                dsimp only at h
                have f0 := z_bhE hb0
                clear hb0
                injection h with h1 h2
                injection h2 with h2 h3
                injection h3 with h3 h4
                exact ⟨by omega, h4.symm⟩
  · rw [if_neg c1] at h
    injection h with h1 h2
    injection h2 with h2 h3
    injection h3 with h3 h4
    exact ⟨by omega, h4.symm⟩
end MONO
/-- the commands read, as long as one follows on a semicolon; r more at the most -/
def x_pa_19 (ip : Nat → Int32) (ty : Nat) : Nat → Nat → Int32 → (Nat → Int32) → Nat → Nat × Int32 × (Nat → Int32) × Nat
  | 0, he, er, cm, cn => (he, er, cm, cn)
  | r + 1, he, er, cm, cn => (if (0 : Int32) ≤ (er) then (he, er, cm, cn) else (if (x_mo_sign ip ty he) = (59) then (match x_mo_command ip ty (he + 1) er cm cn with | (y3_he, y3_er, y3_cm, y3_cn) => x_pa_19 ip ty r y3_he y3_er y3_cm y3_cn) else (he, er, cm, cn)))
set_option maxRecDepth 100000 in
set_option maxHeartbeats 8000000 in
theorem l_mo_pa {g : q_G} {h : q_H} {d mc ms kc ks : Nat} {Q : q_O → q_H → Prop} {th : Int32} {al : Nat → Int32} {cg : Nat} {sv : Bool} {rs : Int32} {ac : Int32} {rj : Int32} {ro : Nat → Int32} {ad : Nat → Int32} {bf : Nat → Int32} {ln : Nat → Int32} {lz : Nat} {ip : Nat → Int32} {ty : Nat} {ea : Int32} {fa : Int32} {n : Nat} {mn : Nat} (hd : 6 ≤ d) (hkc : kc ≤ mc) (hks : ks ≤ ms) : ∀ (r he : Nat) (er : Int32) (cm : Nat → Int32) (cn : Nat) (hh : q_H) (smo : z_Mo hh 215 th al cg sv rs ac rj ro ad bf ln lz ip ty he er ea fa cm cn n mn) (pH : q_same h hh 215 8) (hr : 61 ≤ he + r) (hci : cn ≤ he + 1) (K : ∀ a b c e, x_pa_19 ip ty r he er cm cn = (a, b, c, e) → ∀ h2, z_Mo h2 215 th al cg sv rs ac rj ro ad bf ln lz ip ty a b ea fa c e n mn → q_same h h2 215 8 → q_W g mX11_parse d mc ms Q kc ks 52 [.ref 215] [] h2), q_W g mX11_parse d mc ms Q kc ks 19 [.ref 215] [] hh := by
  intro r
  induction r with
  | zero =>
    intro he er cm cn hh smo pH hr
    have := smo.bhe
    omega
  | succ r ih =>
    intro he er cm cn hh smo pH hr hci K
    have hb_mo_cg := smo.bcg
    have hb_mo_lz := smo.blz
    have hb_mo_ty := smo.bty
    have hb_mo_he := smo.bhe
    have hb_mo_cn := smo.bcn
    have hb_mo_n := smo.bn
    have hb_mo_mn := smo.bmn
    refine q_aload_n (by first | assumption | omega | decide | (rw [q_R0e]; omega)) dX11_parse_19 rfl ?_
    refine q_getf (k := 15) (v := .int (er)) kC_X11 kL_X11_238 rfl (by decide) dX11_parse_20 smo.c0 rfl ?_
    refine q_if_ge 52 dX11_parse_23 (by decide) (fun b23 => ?_) (fun b23 => ?_)
    · exact K he er cm cn (by simp only [x_pa_19, if_pos b23]) hh smo pH
    · refine q_aload_n (by first | assumption | omega | decide | (rw [q_R0e]; omega)) dX11_parse_26 rfl ?_
      refine q_invV (mc' := 0) (ms' := 0) (d' := d - 1) (as := []) dX11_parse_27 kM_X11_sign kL_X11_241 kI_X11_sign kS_X11_sign rfl (kC_X11.1) smo.c0 rfl rfl (Nat.le_of_ble_eq_true rfl) (by omega) (by decide) (by omega) (by omega) (e_mo_sign (d := d - 1) smo (by omega)) (q_kR ?_) q_xR
      change q_W _ _ _ _ _ _ _ _ 30 [.ref (215)] [.int (x_mo_sign ip ty he)] _
      refine q_bipush (v := 59) dX11_parse_30 rfl ?_
      refine q_icmp_ne 52 dX11_parse_32 (by decide) (fun b32 => ?_) (fun b32 => ?_)
      · exact K he er cm cn (by simp only [x_pa_19, if_neg b23, if_neg b32]) hh smo pH
      · have f1 : he < ty := z_sgn b32 (by decide)
        refine q_aload_n (by first | assumption | omega | decide | (rw [q_R0e]; omega)) dX11_parse_35 rfl ?_
        refine q_dup dX11_parse_36 rfl ?_
        refine q_getf (k := 14) (v := .int (nI (he))) kC_X11 kL_X11_235 rfl (by decide) dX11_parse_37 smo.c0 rfl ?_
        refine q_iconst (v := 1) dX11_parse_40 rfl ?_
        refine q_iaddN (a := he) (b := 1) dX11_parse_41 ?_
        change q_W _ _ _ _ _ _ _ _ _ _ [.int (nI (he + 1)), .ref (215)] _
        refine q_putf (k := 14) kC_X11 kL_X11_235 rfl (by decide) rfl dX11_parse_42 smo.c0 (Nat.le_of_ble_eq_true rfl) ⟨rfl, rfl⟩ rfl ?_
        refine z_genW (B := fun H => z_Mo H 215 th al cg sv rs ac rj ro ad bf ln lz ip ty (he + 1) er ea fa cm cn n mn ∧ q_same h H 215 8) ⟨z_Mo.put0 smo (cg' := cg) (sv' := sv) (lz' := lz) (ty' := ty) (he' := he + 1) (cn' := cn) (hbcg := by first | omega | (split <;> omega)) (hblz := by first | omega | (split <;> omega)) (hbty := by first | omega | (split <;> omega)) (hbhe := by first | omega | (split <;> omega)) (hbcn := by first | omega | (split <;> omega)), pH.trans (q_same.set (by omega) (by omega))⟩ (fun h2 hB => ?_)
        obtain ⟨smo2, p2⟩ := hB
        have hb_mo_cg := smo2.bcg
        have hb_mo_lz := smo2.blz
        have hb_mo_ty := smo2.bty
        have hb_mo_he := smo2.bhe
        have hb_mo_cn := smo2.bcn
        have hb_mo_n := smo2.bn
        have hb_mo_mn := smo2.bmn
        refine q_aload_n (by first | assumption | omega | decide | (rw [q_R0e]; omega)) dX11_parse_45 rfl ?_
        rcases x3 : x_mo_command ip ty (he + 1) er cm cn with ⟨y3_he, y3_er, y3_cm, y3_cn⟩
        have e9 := e_mo_command (g := g) (h := h2) (d := d - 1) smo2 (by omega) (by omega)
        rw [x3] at e9
        refine q_invV (mc' := 0) (ms' := 0) (d' := d - 1) (as := []) dX11_parse_46 kM_X11_command kL_X11_266 kI_X11_command kS_X11_command rfl (kC_X11.1) smo2.c0 rfl rfl (Nat.le_of_ble_eq_true rfl) (by omega) (by decide) (by omega) (by omega) (e9) (q_kC (fun h4 hB => ?_)) q_xC
        obtain ⟨t4_0, pp4⟩ := hB
        have smo4 := t4_0
        have p4 := p2.trans (pp4.wide (by omega) (by omega))
        have hb_mo_cg := smo4.bcg
        have hb_mo_lz := smo4.blz
        have hb_mo_ty := smo4.bty
        have hb_mo_he : y3_he ≤ 60 := smo4.bhe
        have hb_mo_cn : y3_cn ≤ 61 := smo4.bcn
        have hb_mo_n := smo4.bn
        have hb_mo_mn := smo4.bmn
        have hcm3 := z_cmE x3
        change q_W _ _ _ _ _ _ _ _ 49 [.ref (215)] [] _
        refine q_goto 19 dX11_parse_49 (by decide) ?_
        exact ih y3_he y3_er y3_cm y3_cn h4 smo4 p4 (by omega) (by omega) (fun a b c e e9 h2 q1 q2 => K a b c e (by simp only [x_pa_19, if_neg b23, if_pos b32, x3]; exact e9) h2 q1 q2)
def x_mo_parse (ip : Nat → Int32) (ty : Nat) (cm : Nat → Int32) : (Nat) × (Int32) × (Nat → Int32) × (Nat) := (match x_mo_command ip ty 0 (-1) cm 0 with | (y4_he, y4_er, y4_cm, y4_cn) => (match x_pa_19 ip ty (61 + ty) y4_he y4_er y4_cm y4_cn with | (a6_0, a6_1, a6_2, a6_3) => (if (0 : Int32) ≤ (a6_1) then (a6_0, a6_1, a6_2, a6_3) else (if ty ≤ a6_0 then (a6_0, a6_1, a6_2, a6_3) else (a6_0, nI (a6_0), a6_2, a6_3)))))
set_option maxRecDepth 100000 in
set_option maxHeartbeats 8000000 in
theorem e_mo_parse {g : q_G} {h : q_H} {d : Nat} {th : Int32} {al : Nat → Int32} {cg : Nat} {sv : Bool} {rs : Int32} {ac : Int32} {rj : Int32} {ro : Nat → Int32} {ad : Nat → Int32} {bf : Nat → Int32} {ln : Nat → Int32} {lz : Nat} {ip : Nat → Int32} {ty : Nat} {he : Nat} {er : Int32} {ea : Int32} {fa : Int32} {cm : Nat → Int32} {cn : Nat} {n : Nat} {mn : Nat} (smo : z_Mo h 215 th al cg sv rs ac rj ro ad bf ln lz ip ty he er ea fa cm cn n mn)     (hd : 6 ≤ d) : q_Spec g mX11_parse d 0 0 [.ref (215)] h (q_chg (.inl none) (fun h1 => z_Mo h1 215 th al cg sv rs ac rj ro ad bf ln lz ip ty ((x_mo_parse ip ty cm).1) ((x_mo_parse ip ty cm).2.1) ea fa ((x_mo_parse ip ty cm).2.2.1) ((x_mo_parse ip ty cm).2.2.2) n mn ∧ q_same h h1 215 8)) := by
  have hb_mo_cg := smo.bcg
  have hb_mo_lz := smo.blz
  have hb_mo_ty := smo.bty
  have hb_mo_he := smo.bhe
  have hb_mo_cn := smo.bcn
  have hb_mo_n := smo.bn
  have hb_mo_mn := smo.bmn
  have ho_mo_cg := smo.bcg
  have ho_mo_lz := smo.blz
  have ho_mo_ty := smo.bty
  have ho_mo_he := smo.bhe
  have ho_mo_cn := smo.bcn
  have ho_mo_n := smo.bn
  have ho_mo_mn := smo.bmn
  have p0 : q_same h h 215 8 := q_same.rfl'
  refine q_enter (by decide +kernel) rfl rfl (Nat.le_of_ble_eq_true rfl) (fun hz => ?_)
  change q_W _ _ _ _ _ _ _ _ _ [.ref (215)] [] _
  refine q_aload_n (by first | assumption | omega | decide | (rw [q_R0e]; omega)) dX11_parse_0 rfl ?_
  refine q_iconst (v := 0) dX11_parse_1 rfl ?_
  refine q_putf (k := 14) kC_X11 kL_X11_235 rfl (by decide) rfl dX11_parse_2 smo.c0 (Nat.le_of_ble_eq_true rfl) ⟨rfl, rfl⟩ rfl ?_
  refine z_genW (B := fun H => z_Mo H 215 th al cg sv rs ac rj ro ad bf ln lz ip ty 0 er ea fa cm cn n mn ∧ q_same h H 215 8) ⟨z_Mo.put0 smo (cg' := cg) (sv' := sv) (lz' := lz) (ty' := ty) (he' := 0) (cn' := cn) (hbcg := by first | omega | (split <;> omega)) (hblz := by first | omega | (split <;> omega)) (hbty := by first | omega | (split <;> omega)) (hbhe := by first | omega | (split <;> omega)) (hbcn := by first | omega | (split <;> omega)), p0.trans (q_same.set (by omega) (by omega))⟩ (fun h1 hB => ?_)
  obtain ⟨smo1, p1⟩ := hB
  have hb_mo_cg := smo1.bcg
  have hb_mo_lz := smo1.blz
  have hb_mo_ty := smo1.bty
  have hb_mo_cn := smo1.bcn
  have hb_mo_n := smo1.bn
  have hb_mo_mn := smo1.bmn
  refine q_aload_n (by first | assumption | omega | decide | (rw [q_R0e]; omega)) dX11_parse_5 rfl ?_
  refine q_iconst (v := -1) dX11_parse_6 rfl ?_
  refine q_putf (k := 15) kC_X11 kL_X11_238 rfl (by decide) rfl dX11_parse_7 smo1.c0 (Nat.le_of_ble_eq_true rfl) ⟨rfl, rfl⟩ rfl ?_
  refine z_genW (B := fun H => z_Mo H 215 th al cg sv rs ac rj ro ad bf ln lz ip ty 0 (-1) ea fa cm cn n mn ∧ q_same h H 215 8) ⟨z_Mo.put0 smo1 (cg' := cg) (sv' := sv) (lz' := lz) (ty' := ty) (he' := 0) (cn' := cn) (hbcg := by first | omega | (split <;> omega)) (hblz := by first | omega | (split <;> omega)) (hbty := by first | omega | (split <;> omega)) (hbhe := by first | omega | (split <;> omega)) (hbcn := by first | omega | (split <;> omega)), p1.trans (q_same.set (by omega) (by omega))⟩ (fun h2 hB => ?_)
  obtain ⟨smo2, p2⟩ := hB
  have hb_mo_cg := smo2.bcg
  have hb_mo_lz := smo2.blz
  have hb_mo_ty := smo2.bty
  have hb_mo_cn := smo2.bcn
  have hb_mo_n := smo2.bn
  have hb_mo_mn := smo2.bmn
  refine q_aload_n (by first | assumption | omega | decide | (rw [q_R0e]; omega)) dX11_parse_10 rfl ?_
  refine q_iconst (v := 0) dX11_parse_11 rfl ?_
  refine q_putf (k := 19) kC_X11 kL_X11_254 rfl (by decide) rfl dX11_parse_12 smo2.c0 (Nat.le_of_ble_eq_true rfl) ⟨rfl, rfl⟩ rfl ?_
  refine z_genW (B := fun H => z_Mo H 215 th al cg sv rs ac rj ro ad bf ln lz ip ty 0 (-1) ea fa cm 0 n mn ∧ q_same h H 215 8) ⟨z_Mo.put0 smo2 (cg' := cg) (sv' := sv) (lz' := lz) (ty' := ty) (he' := 0) (cn' := 0) (hbcg := by first | omega | (split <;> omega)) (hblz := by first | omega | (split <;> omega)) (hbty := by first | omega | (split <;> omega)) (hbhe := by first | omega | (split <;> omega)) (hbcn := by first | omega | (split <;> omega)), p2.trans (q_same.set (by omega) (by omega))⟩ (fun h3 hB => ?_)
  obtain ⟨smo3, p3⟩ := hB
  have hb_mo_cg := smo3.bcg
  have hb_mo_lz := smo3.blz
  have hb_mo_ty := smo3.bty
  have hb_mo_n := smo3.bn
  have hb_mo_mn := smo3.bmn
  refine q_aload_n (by first | assumption | omega | decide | (rw [q_R0e]; omega)) dX11_parse_15 rfl ?_
  rcases x4 : x_mo_command ip ty 0 (-1) cm 0 with ⟨y4_he, y4_er, y4_cm, y4_cn⟩
  have e9 := e_mo_command (g := g) (h := h3) (d := d - 1) smo3 (by omega) (by omega)
  rw [x4] at e9
  refine q_invV (mc' := 0) (ms' := 0) (d' := d - 1) (as := []) dX11_parse_16 kM_X11_command kL_X11_266 kI_X11_command kS_X11_command rfl (kC_X11.1) smo3.c0 rfl rfl (Nat.le_of_ble_eq_true rfl) (by omega) (by decide) (by omega) (by omega) (e9) (q_kC (fun h5 hB => ?_)) q_xC
  obtain ⟨t5_0, pp5⟩ := hB
  have smo5 := t5_0
  have p5 := p3.trans (pp5.wide (by omega) (by omega))
  have hb_mo_cg := smo5.bcg
  have hb_mo_lz := smo5.blz
  have hb_mo_ty := smo5.bty
  have hb_mo_he : y4_he ≤ 60 := smo5.bhe
  have hb_mo_cn : y4_cn ≤ 61 := smo5.bcn
  have hb_mo_n := smo5.bn
  have hb_mo_mn := smo5.bmn
  have hcm4 := z_cmE x4
  change q_W _ _ _ _ _ _ _ _ 19 [.ref (215)] [] _
  refine l_mo_pa (h := h) (by omega) (by omega) (by omega) (61 + ty) y4_he y4_er y4_cm y4_cn h5 smo5 p5 (by omega) (by omega) (fun a6_0 a6_1 a6_2 a6_3 x6 h7 smo7 p7 => ?_)
  have hb_mo_cg := smo7.bcg
  have hb_mo_lz := smo7.blz
  have hb_mo_ty := smo7.bty
  have hb_mo_he := smo7.bhe
  have hb_mo_cn := smo7.bcn
  have hb_mo_n := smo7.bn
  have hb_mo_mn := smo7.bmn
  change q_W _ _ _ _ _ _ _ _ 52 [.ref (215)] [] _
  refine q_aload_n (by first | assumption | omega | decide | (rw [q_R0e]; omega)) dX11_parse_52 rfl ?_
  refine q_getf (k := 15) (v := .int (a6_1)) kC_X11 kL_X11_238 rfl (by decide) dX11_parse_53 smo7.c0 rfl ?_
  refine q_if_ge 78 dX11_parse_56 (by decide) (fun b56 => ?_) (fun b56 => ?_)
  · have hE : x_mo_parse ip ty cm = (a6_0, a6_1, a6_2, a6_3) := by simp only [x_mo_parse, x4, x6, if_pos b56]
    rw [hE]
    exact q_return dX11_parse_78 rfl (by omega) (by omega) ⟨rfl, smo7, p7⟩
  · refine q_aload_n (by first | assumption | omega | decide | (rw [q_R0e]; omega)) dX11_parse_59 rfl ?_
    refine q_getf (k := 14) (v := .int (nI (a6_0))) kC_X11 kL_X11_235 rfl (by decide) dX11_parse_60 smo7.c0 rfl ?_
    refine q_aload_n (by first | assumption | omega | decide | (rw [q_R0e]; omega)) dX11_parse_63 rfl ?_
    refine q_getf (k := 13) (v := .int (nI (ty))) kC_X11 kL_X11_232 rfl (by decide) dX11_parse_64 smo7.c0 rfl ?_
    refine q_icmp_ge 78 dX11_parse_67 (by decide) (fun b67 => ?_) (fun b67 => ?_)
    · have b67 := (nI_leI (a := ty) (b := a6_0) (by omega) (by omega)).mp b67
      have hE : x_mo_parse ip ty cm = (a6_0, a6_1, a6_2, a6_3) := by simp only [x_mo_parse, x4, x6, if_neg b56, if_pos b67]
      rw [hE]
      exact q_return dX11_parse_78 rfl (by omega) (by omega) ⟨rfl, smo7, p7⟩
    · have b67 : ¬ (ty ≤ a6_0) := fun q => b67 ((nI_leI (a := ty) (b := a6_0) (by omega) (by omega)).mpr q)
      refine q_aload_n (by first | assumption | omega | decide | (rw [q_R0e]; omega)) dX11_parse_70 rfl ?_
      refine q_aload_n (by first | assumption | omega | decide | (rw [q_R0e]; omega)) dX11_parse_71 rfl ?_
      refine q_getf (k := 14) (v := .int (nI (a6_0))) kC_X11 kL_X11_235 rfl (by decide) dX11_parse_72 smo7.c0 rfl ?_
      refine q_putf (k := 15) kC_X11 kL_X11_238 rfl (by decide) rfl dX11_parse_75 smo7.c0 (Nat.le_of_ble_eq_true rfl) ⟨rfl, rfl⟩ rfl ?_
      refine z_genW (B := fun H => z_Mo H 215 th al cg sv rs ac rj ro ad bf ln lz ip ty a6_0 (nI (a6_0)) ea fa a6_2 a6_3 n mn ∧ q_same h H 215 8) ⟨z_Mo.put0 smo7 (cg' := cg) (sv' := sv) (lz' := lz) (ty' := ty) (he' := a6_0) (cn' := a6_3) (hbcg := by first | omega | (split <;> omega)) (hblz := by first | omega | (split <;> omega)) (hbty := by first | omega | (split <;> omega)) (hbhe := by first | omega | (split <;> omega)) (hbcn := by first | omega | (split <;> omega)), p7.trans (q_same.set (by omega) (by omega))⟩ (fun h8 hB => ?_)
      obtain ⟨smo8, p8⟩ := hB
      have hb_mo_cg := smo8.bcg
      have hb_mo_lz := smo8.blz
      have hb_mo_ty := smo8.bty
      have hb_mo_he := smo8.bhe
      have hb_mo_cn := smo8.bcn
      have hb_mo_n := smo8.bn
      have hb_mo_mn := smo8.bmn
      have hE : x_mo_parse ip ty cm = (a6_0, nI (a6_0), a6_2, a6_3) := by simp only [x_mo_parse, x4, x6, if_neg b56, if_neg b67]
      rw [hE]
      exact q_return dX11_parse_78 rfl (by omega) (by omega) ⟨rfl, smo8, p8⟩