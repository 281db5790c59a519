def x_mo_does (al : Nat → Int32) (rs : Int32) (bf : Nat → Int32) (cm : Nat → Int32) (n : Nat) (mn : Nat) (p : Nat) : (Int32) × (Nat → Int32) × (Int32) × (Nat → Int32) × (Nat) × (Nat) := (if (cm p) = (97) then (match x_mo_adds al rs n (cm (p + 1)) with | (v1, y1_al, y1_rs, y1_n) => (v1, y1_al, y1_rs, bf, y1_n, mn)) else (if (cm p) = (98) then (match x_mo_takes al rs mn with | (v3, y3_al, y3_rs, y3_mn) => (v3, y3_al, y3_rs, bf, n, y3_mn)) else (if (cm p) = (99) then (match x_mo_claims al rs n mn (cm (p + 1)) with | (v5, y5_al, y5_rs, y5_mn) => (v5, y5_al, y5_rs, bf, n, y5_mn)) else (if (cm p) = (101) then (match x_mo_closes al rs mn with | (v7, y7_al, y7_rs, y7_mn) => (v7, y7_al, y7_rs, bf, n, y7_mn)) else (if (cm p) = (109) then (match x_mo_removes al rs n mn (cm (p + 1)) with | (v9, y9_al, y9_rs, y9_n, y9_mn) => (v9, y9_al, y9_rs, bf, y9_n, y9_mn)) else (if (cm p) = (110) then (match x_mo_renews al rs n (cm (p + 1)) with | (v11, y11_al, y11_rs) => (v11, y11_al, y11_rs, bf, n, mn)) else (if (cm p) = (112) then (match x_mo_replies al rs n mn (cm (p + 1)) with | (v13, y13_al, y13_rs, y13_mn) => (v13, y13_al, y13_rs, bf, n, y13_mn)) else (if (cm p) = (116) then (match x_mo_leads al rs n (cm (p + 1)) (cm (p + 2)) with | (v15, y15_al, y15_rs) => (v15, y15_al, y15_rs, bf, n, mn)) else (if (cm p) = (119) then (match x_mo_weighs al rs n (cm (p + 1)) (cm (p + 2)) with | (v17, y17_al, y17_rs) => (v17, y17_al, y17_rs, bf, n, mn)) else (if (cm p) = (121) then (match x_mo_yields al rs n (cm (p + 1)) (cm (p + 2)) with | (v19, y19_al, y19_rs) => (v19, y19_al, y19_rs, bf, n, mn)) else (match x_mo_passes al rs bf n (cm (p + 1)) with | (v21, y21_al, y21_rs, y21_bf) => (v21, y21_al, y21_rs, y21_bf, n, mn))))))))))))
set_option maxRecDepth 100000 in
set_option maxHeartbeats 8000000 in
theorem e_mo_does {g : q_G} {h : q_H} {d : Nat} {th : Int32} {al : Nat → Int32} {cg : Nat} {sv : Bool} {rs : Int32} {ac : Int32} {rj : Int32} {ro : Nat → Int32} {ad : Nat → Int32} {bf : Nat → Int32} {ln : Nat → Int32} {lz : Nat} {ip : Nat → Int32} {ty : Nat} {he : Nat} {er : Int32} {ea : Int32} {fa : Int32} {cm : Nat → Int32} {cn : Nat} {n : Nat} {mn : Nat} (smo : z_Mo h 215 th al cg sv rs ac rj ro ad bf ln lz ip ty he er ea fa cm cn n mn)  (p : Nat) (hlm : mn ≠ 0 → 0 < x_pl n al (al (39 + mn - 1))) (hp : p + 3 ≤ 183)  (hd : 6 ≤ d) : q_Spec g mX11_does d 0 0 [.ref (215), .int (nI (p))] h (q_chg (.inl (some (.int (x_mo_does al rs bf cm n mn p).1))) (fun h1 => z_Mo h1 215 th ((x_mo_does al rs bf cm n mn p).2.1) cg sv ((x_mo_does al rs bf cm n mn p).2.2.1) ac rj ro ad ((x_mo_does al rs bf cm n mn p).2.2.2.1) ln lz ip ty he er ea fa cm cn ((x_mo_does al rs bf cm n mn p).2.2.2.2.1) ((x_mo_does al rs bf cm n mn p).2.2.2.2.2) ∧ q_same h h1 215 8)) := by
  have hb_mo_cg := smo.bcg
  have hb_mo_lz := smo.blz
  have hb_mo_ty := smo.bty
  have hb_mo_he := smo.bhe
  have hb_mo_cn := smo.bcn
  have hb_mo_n := smo.bn
  have hb_mo_mn := smo.bmn
  have ho_mo_cg := smo.bcg
  have ho_mo_lz := smo.blz
  have ho_mo_ty := smo.bty
  have ho_mo_he := smo.bhe
  have ho_mo_cn := smo.bcn
  have ho_mo_n := smo.bn
  have ho_mo_mn := smo.bmn
  have p0 : q_same h h 215 8 := q_same.rfl'
  refine q_enter (by decide +kernel) rfl rfl (Nat.le_of_ble_eq_true rfl) (fun hz => ?_)
  change q_W _ _ _ _ _ _ _ _ _ [.ref (215), .int (nI (p)), q_u, q_u] [] _
  refine q_aload_n (by first | assumption | omega | decide | (rw [q_R0e]; omega)) dX11_does_0 rfl ?_
  refine q_getf (k := 18) (v := .ref (222)) kC_X11 kL_X11_37 rfl (by decide) dX11_does_1 smo.c0 rfl ?_
  refine q_iload_n dX11_does_4 rfl ?_
  refine q_iconst (v := 1) dX11_does_5 rfl ?_
  refine q_iaddN (a := p) (b := 1) dX11_does_6 ?_
  change q_W _ _ _ _ _ _ _ _ _ _ [.int (nI (p + 1)), .ref (222)] _
  refine q_ialdN (j := p + 1) (f := cm) dX11_does_7 smo.c7 (by omega) (by decide) ?_
  change q_W _ _ _ _ _ _ _ _ _ _ [.int (cm (p + 1))] _
  refine q_istore_n dX11_does_8 (by decide) rfl ?_
  change q_W _ _ _ _ _ _ _ _ _ [.ref (215), .int (nI (p)), .int (cm (p + 1)), q_u] [] _
  refine q_aload_n (by first | assumption | omega | decide | (rw [q_R0e]; omega)) dX11_does_9 rfl ?_
  refine q_getf (k := 18) (v := .ref (222)) kC_X11 kL_X11_37 rfl (by decide) dX11_does_10 smo.c0 rfl ?_
  refine q_iload_n dX11_does_13 rfl ?_
  refine q_iconst (v := 2) dX11_does_14 rfl ?_
  refine q_iaddN (a := p) (b := 2) dX11_does_15 ?_
  change q_W _ _ _ _ _ _ _ _ _ _ [.int (nI (p + 2)), .ref (222)] _
  refine q_ialdN (j := p + 2) (f := cm) dX11_does_16 smo.c7 (by omega) (by decide) ?_
  change q_W _ _ _ _ _ _ _ _ _ _ [.int (cm (p + 2))] _
  refine q_istore_n dX11_does_17 (by decide) rfl ?_
  change q_W _ _ _ _ _ _ _ _ _ [.ref (215), .int (nI (p)), .int (cm (p + 1)), .int (cm (p + 2))] [] _
  refine q_aload_n (by first | assumption | omega | decide | (rw [q_R0e]; omega)) dX11_does_18 rfl ?_
  refine q_getf (k := 18) (v := .ref (222)) kC_X11 kL_X11_37 rfl (by decide) dX11_does_19 smo.c0 rfl ?_
  refine q_iload_n dX11_does_22 rfl ?_
  refine q_ialdN (j := p) (f := cm) dX11_does_23 smo.c7 (by omega) (by decide) ?_
  change q_W _ _ _ _ _ _ _ _ _ _ [.int (cm p)] _
  by_cases b24_97 : (cm p) = 97
  · refine q_tableIn (off := 116) 140 dX11_does_24 (by rw [b24_97]; decide) (by rw [b24_97]; decide) (by rw [b24_97]; decide) (by decide) ?_
    refine q_aload_n (by first | assumption | omega | decide | (rw [q_R0e]; omega)) dX11_does_140 rfl ?_
    refine q_iload_n dX11_does_141 rfl ?_
    rcases x1 : x_mo_adds al rs n (cm (p + 1)) with ⟨v1, y1_al, y1_rs, y1_n⟩
    have e9 := e_mo_adds (g := g) (h := h) (d := d - 1) smo (cm (p + 1)) (by omega)
    rw [x1] at e9
    refine q_invV (mc' := 0) (ms' := 0) (d' := d - 1) (as := [.int (cm (p + 1))]) dX11_does_142 kM_X11_adds kL_X11_116 kI_X11_adds kS_X11_adds rfl (kC_X11.1) smo.c0 rfl rfl (Nat.le_of_ble_eq_true rfl) (by omega) (by decide) (by omega) (by omega) (e9) (q_kC (fun h2 hB => ?_)) q_xC
    obtain ⟨t2_0, pp2⟩ := hB
    have smo2 := t2_0
    have p2 := p0.trans (pp2.wide (by omega) (by omega))
    have hb_mo_cg := smo2.bcg
    have hb_mo_lz := smo2.blz
    have hb_mo_ty := smo2.bty
    have hb_mo_he := smo2.bhe
    have hb_mo_cn := smo2.bcn
    have hb_mo_n : y1_n ≤ 8 := smo2.bn
    have hb_mo_mn := smo2.bmn
    change q_W _ _ _ _ _ _ _ _ 145 [.ref (215), .int (nI (p)), .int (cm (p + 1)), .int (cm (p + 2))] [.int (v1)] _
    have hE : x_mo_does al rs bf cm n mn p = (v1, y1_al, y1_rs, bf, y1_n, mn) := by simp only [x_mo_does, if_pos b24_97, x1]
    rw [hE]
    exact q_ireturn dX11_does_145 rfl rfl (by omega) (by omega) ⟨rfl, smo2, p2⟩
  · by_cases b24_98 : (cm p) = 98
    · refine q_tableIn (off := 167) 191 dX11_does_24 (by rw [b24_98]; decide) (by rw [b24_98]; decide) (by rw [b24_98]; decide) (by decide) ?_
      refine q_aload_n (by first | assumption | omega | decide | (rw [q_R0e]; omega)) dX11_does_191 rfl ?_
      rcases x3 : x_mo_takes al rs mn with ⟨v3, y3_al, y3_rs, y3_mn⟩
      have e9 := e_mo_takes (g := g) (h := h) (d := d - 1) smo (by omega)
      rw [x3] at e9
      refine q_invV (mc' := 0) (ms' := 0) (d' := d - 1) (as := []) dX11_does_192 kM_X11_takes kL_X11_165 kI_X11_takes kS_X11_takes rfl (kC_X11.1) smo.c0 rfl rfl (Nat.le_of_ble_eq_true rfl) (by omega) (by decide) (by omega) (by omega) (e9) (q_kC (fun h4 hB => ?_)) q_xC
      obtain ⟨t4_0, pp4⟩ := hB
      have smo4 := t4_0
      have p4 := p0.trans (pp4.wide (by omega) (by omega))
      have hb_mo_cg := smo4.bcg
      have hb_mo_lz := smo4.blz
      have hb_mo_ty := smo4.bty
      have hb_mo_he := smo4.bhe
      have hb_mo_cn := smo4.bcn
      have hb_mo_n := smo4.bn
      have hb_mo_mn : y3_mn ≤ 12 := smo4.bmn
      change q_W _ _ _ _ _ _ _ _ 195 [.ref (215), .int (nI (p)), .int (cm (p + 1)), .int (cm (p + 2))] [.int (v3)] _
      have hE : x_mo_does al rs bf cm n mn p = (v3, y3_al, y3_rs, bf, n, y3_mn) := by simp only [x_mo_does, if_neg b24_97, if_pos b24_98, x3]
      rw [hE]
      exact q_ireturn dX11_does_195 rfl rfl (by omega) (by omega) ⟨rfl, smo4, p4⟩
    · by_cases b24_99 : (cm p) = 99
      · refine q_tableIn (off := 155) 179 dX11_does_24 (by rw [b24_99]; decide) (by rw [b24_99]; decide) (by rw [b24_99]; decide) (by decide) ?_
        refine q_aload_n (by first | assumption | omega | decide | (rw [q_R0e]; omega)) dX11_does_179 rfl ?_
        refine q_iload_n dX11_does_180 rfl ?_
        rcases x5 : x_mo_claims al rs n mn (cm (p + 1)) with ⟨v5, y5_al, y5_rs, y5_mn⟩
        have e9 := e_mo_claims (g := g) (h := h) (d := d - 1) smo (cm (p + 1)) (by omega)
        rw [x5] at e9
        refine q_invV (mc' := 0) (ms' := 0) (d' := d - 1) (as := [.int (cm (p + 1))]) dX11_does_181 kM_X11_claims kL_X11_156 kI_X11_claims kS_X11_claims rfl (kC_X11.1) smo.c0 rfl rfl (Nat.le_of_ble_eq_true rfl) (by omega) (by decide) (by omega) (by omega) (e9) (q_kC (fun h6 hB => ?_)) q_xC
        obtain ⟨t6_0, pp6⟩ := hB
        have smo6 := t6_0
        have p6 := p0.trans (pp6.wide (by omega) (by omega))
        have hb_mo_cg := smo6.bcg
        have hb_mo_lz := smo6.blz
        have hb_mo_ty := smo6.bty
        have hb_mo_he := smo6.bhe
        have hb_mo_cn := smo6.bcn
        have hb_mo_n := smo6.bn
        have hb_mo_mn : y5_mn ≤ 12 := smo6.bmn
        change q_W _ _ _ _ _ _ _ _ 184 [.ref (215), .int (nI (p)), .int (cm (p + 1)), .int (cm (p + 2))] [.int (v5)] _
        have hE : x_mo_does al rs bf cm n mn p = (v5, y5_al, y5_rs, bf, n, y5_mn) := by simp only [x_mo_does, if_neg b24_97, if_neg b24_98, if_pos b24_99, x5]
        rw [hE]
        exact q_ireturn dX11_does_184 rfl rfl (by omega) (by omega) ⟨rfl, smo6, p6⟩
      · by_cases b24_101 : (cm p) = 101
        · refine q_tableIn (off := 172) 196 dX11_does_24 (by rw [b24_101]; decide) (by rw [b24_101]; decide) (by rw [b24_101]; decide) (by decide) ?_
          refine q_aload_n (by first | assumption | omega | decide | (rw [q_R0e]; omega)) dX11_does_196 rfl ?_
          rcases x7 : x_mo_closes al rs mn with ⟨v7, y7_al, y7_rs, y7_mn⟩
          have e9 := e_mo_closes (g := g) (h := h) (d := d - 1) smo (by omega)
          rw [x7] at e9
          refine q_invV (mc' := 0) (ms' := 0) (d' := d - 1) (as := []) dX11_does_197 kM_X11_closes kL_X11_168 kI_X11_closes kS_X11_closes rfl (kC_X11.1) smo.c0 rfl rfl (Nat.le_of_ble_eq_true rfl) (by omega) (by decide) (by omega) (by omega) (e9) (q_kC (fun h8 hB => ?_)) q_xC
          obtain ⟨t8_0, pp8⟩ := hB
          have smo8 := t8_0
          have p8 := p0.trans (pp8.wide (by omega) (by omega))
          have hb_mo_cg := smo8.bcg
          have hb_mo_lz := smo8.blz
          have hb_mo_ty := smo8.bty
          have hb_mo_he := smo8.bhe
          have hb_mo_cn := smo8.bcn
          have hb_mo_n := smo8.bn
          have hb_mo_mn : y7_mn ≤ 12 := smo8.bmn
          change q_W _ _ _ _ _ _ _ _ 200 [.ref (215), .int (nI (p)), .int (cm (p + 1)), .int (cm (p + 2))] [.int (v7)] _
          have hE : x_mo_does al rs bf cm n mn p = (v7, y7_al, y7_rs, bf, n, y7_mn) := by simp only [x_mo_does, if_neg b24_97, if_neg b24_98, if_neg b24_99, if_pos b24_101, x7]
          rw [hE]
          exact q_ireturn dX11_does_200 rfl rfl (by omega) (by omega) ⟨rfl, smo8, p8⟩
        · by_cases b24_109 : (cm p) = 109
          · refine q_tableIn (off := 122) 146 dX11_does_24 (by rw [b24_109]; decide) (by rw [b24_109]; decide) (by rw [b24_109]; decide) (by decide) ?_
            refine q_aload_n (by first | assumption | omega | decide | (rw [q_R0e]; omega)) dX11_does_146 rfl ?_
            refine q_iload_n dX11_does_147 rfl ?_
            rcases x9 : x_mo_removes al rs n mn (cm (p + 1)) with ⟨v9, y9_al, y9_rs, y9_n, y9_mn⟩
            have e9 := e_mo_removes (g := g) (h := h) (d := d - 1) smo (cm (p + 1)) (by omega)
            rw [x9] at e9
            refine q_invV (mc' := 0) (ms' := 0) (d' := d - 1) (as := [.int (cm (p + 1))]) dX11_does_148 kM_X11_removes kL_X11_138 kI_X11_removes kS_X11_removes rfl (kC_X11.1) smo.c0 rfl rfl (Nat.le_of_ble_eq_true rfl) (by omega) (by decide) (by omega) (by omega) (e9) (q_kC (fun h10 hB => ?_)) q_xC
            obtain ⟨t10_0, pp10⟩ := hB
            have smo10 := t10_0
            have p10 := p0.trans (pp10.wide (by omega) (by omega))
            have hb_mo_cg := smo10.bcg
            have hb_mo_lz := smo10.blz
            have hb_mo_ty := smo10.bty
            have hb_mo_he := smo10.bhe
            have hb_mo_cn := smo10.bcn
            have hb_mo_n : y9_n ≤ 8 := smo10.bn
            have hb_mo_mn : y9_mn ≤ 12 := smo10.bmn
            change q_W _ _ _ _ _ _ _ _ 151 [.ref (215), .int (nI (p)), .int (cm (p + 1)), .int (cm (p + 2))] [.int (v9)] _
            have hE : x_mo_does al rs bf cm n mn p = (v9, y9_al, y9_rs, bf, y9_n, y9_mn) := by simp only [x_mo_does, if_neg b24_97, if_neg b24_98, if_neg b24_99, if_neg b24_101, if_pos b24_109, x9]
            rw [hE]
            exact q_ireturn dX11_does_151 rfl rfl (by omega) (by omega) ⟨rfl, smo10, p10⟩
          · by_cases b24_110 : (cm p) = 110
            · refine q_tableIn (off := 149) 173 dX11_does_24 (by rw [b24_110]; decide) (by rw [b24_110]; decide) (by rw [b24_110]; decide) (by decide) ?_
              refine q_aload_n (by first | assumption | omega | decide | (rw [q_R0e]; omega)) dX11_does_173 rfl ?_
              refine q_iload_n dX11_does_174 rfl ?_
              rcases x11 : x_mo_renews al rs n (cm (p + 1)) with ⟨v11, y11_al, y11_rs⟩
              have e9 := e_mo_renews (g := g) (h := h) (d := d - 1) smo (cm (p + 1)) (by omega)
              rw [x11] at e9
              refine q_invV (mc' := 0) (ms' := 0) (d' := d - 1) (as := [.int (cm (p + 1))]) dX11_does_175 kM_X11_renews kL_X11_153 kI_X11_renews kS_X11_renews rfl (kC_X11.1) smo.c0 rfl rfl (Nat.le_of_ble_eq_true rfl) (by omega) (by decide) (by omega) (by omega) (e9) (q_kC (fun h12 hB => ?_)) q_xC
              obtain ⟨t12_0, pp12⟩ := hB
              have smo12 := t12_0
              have p12 := p0.trans (pp12.wide (by omega) (by omega))
              have hb_mo_cg := smo12.bcg
              have hb_mo_lz := smo12.blz
              have hb_mo_ty := smo12.bty
              have hb_mo_he := smo12.bhe
              have hb_mo_cn := smo12.bcn
              have hb_mo_n := smo12.bn
              have hb_mo_mn := smo12.bmn
              change q_W _ _ _ _ _ _ _ _ 178 [.ref (215), .int (nI (p)), .int (cm (p + 1)), .int (cm (p + 2))] [.int (v11)] _
              have hE : x_mo_does al rs bf cm n mn p = (v11, y11_al, y11_rs, bf, n, mn) := by simp only [x_mo_does, if_neg b24_97, if_neg b24_98, if_neg b24_99, if_neg b24_101, if_neg b24_109, if_pos b24_110, x11]
              rw [hE]
              exact q_ireturn dX11_does_178 rfl rfl (by omega) (by omega) ⟨rfl, smo12, p12⟩
            · by_cases b24_112 : (cm p) = 112
              · refine q_tableIn (off := 161) 185 dX11_does_24 (by rw [b24_112]; decide) (by rw [b24_112]; decide) (by rw [b24_112]; decide) (by decide) ?_
                refine q_aload_n (by first | assumption | omega | decide | (rw [q_R0e]; omega)) dX11_does_185 rfl ?_
                refine q_iload_n dX11_does_186 rfl ?_
                rcases x13 : x_mo_replies al rs n mn (cm (p + 1)) with ⟨v13, y13_al, y13_rs, y13_mn⟩
                have e9 := e_mo_replies (g := g) (h := h) (d := d - 1) smo (cm (p + 1)) hlm (by omega)
                rw [x13] at e9
                refine q_invV (mc' := 0) (ms' := 0) (d' := d - 1) (as := [.int (cm (p + 1))]) dX11_does_187 kM_X11_replies kL_X11_162 kI_X11_replies kS_X11_replies rfl (kC_X11.1) smo.c0 rfl rfl (Nat.le_of_ble_eq_true rfl) (by omega) (by decide) (by omega) (by omega) (e9) (q_kC (fun h14 hB => ?_)) q_xC
                obtain ⟨t14_0, pp14⟩ := hB
                have smo14 := t14_0
                have p14 := p0.trans (pp14.wide (by omega) (by omega))
                have hb_mo_cg := smo14.bcg
                have hb_mo_lz := smo14.blz
                have hb_mo_ty := smo14.bty
                have hb_mo_he := smo14.bhe
                have hb_mo_cn := smo14.bcn
                have hb_mo_n := smo14.bn
                have hb_mo_mn : y13_mn ≤ 12 := smo14.bmn
                change q_W _ _ _ _ _ _ _ _ 190 [.ref (215), .int (nI (p)), .int (cm (p + 1)), .int (cm (p + 2))] [.int (v13)] _
                have hE : x_mo_does al rs bf cm n mn p = (v13, y13_al, y13_rs, bf, n, y13_mn) := by simp only [x_mo_does, if_neg b24_97, if_neg b24_98, if_neg b24_99, if_neg b24_101, if_neg b24_109, if_neg b24_110, if_pos b24_112, x13]
                rw [hE]
                exact q_ireturn dX11_does_190 rfl rfl (by omega) (by omega) ⟨rfl, smo14, p14⟩
              · by_cases b24_116 : (cm p) = 116
                · refine q_tableIn (off := 128) 152 dX11_does_24 (by rw [b24_116]; decide) (by rw [b24_116]; decide) (by rw [b24_116]; decide) (by decide) ?_
                  refine q_aload_n (by first | assumption | omega | decide | (rw [q_R0e]; omega)) dX11_does_152 rfl ?_
                  refine q_iload_n dX11_does_153 rfl ?_
                  refine q_iload_n dX11_does_154 rfl ?_
                  rcases x15 : x_mo_leads al rs n (cm (p + 1)) (cm (p + 2)) with ⟨v15, y15_al, y15_rs⟩
                  have e9 := e_mo_leads (g := g) (h := h) (d := d - 1) smo (cm (p + 1)) (cm (p + 2)) (by omega)
                  rw [x15] at e9
                  refine q_invV (mc' := 0) (ms' := 0) (d' := d - 1) (as := [.int (cm (p + 1)), .int (cm (p + 2))]) dX11_does_155 kM_X11_leads kL_X11_144 kI_X11_leads kS_X11_leads rfl (kC_X11.1) smo.c0 rfl rfl (Nat.le_of_ble_eq_true rfl) (by omega) (by decide) (by omega) (by omega) (e9) (q_kC (fun h16 hB => ?_)) q_xC
                  obtain ⟨t16_0, pp16⟩ := hB
                  have smo16 := t16_0
                  have p16 := p0.trans (pp16.wide (by omega) (by omega))
                  have hb_mo_cg := smo16.bcg
                  have hb_mo_lz := smo16.blz
                  have hb_mo_ty := smo16.bty
                  have hb_mo_he := smo16.bhe
                  have hb_mo_cn := smo16.bcn
                  have hb_mo_n := smo16.bn
                  have hb_mo_mn := smo16.bmn
                  change q_W _ _ _ _ _ _ _ _ 158 [.ref (215), .int (nI (p)), .int (cm (p + 1)), .int (cm (p + 2))] [.int (v15)] _
                  have hE : x_mo_does al rs bf cm n mn p = (v15, y15_al, y15_rs, bf, n, mn) := by simp only [x_mo_does, if_neg b24_97, if_neg b24_98, if_neg b24_99, if_neg b24_101, if_neg b24_109, if_neg b24_110, if_neg b24_112, if_pos b24_116, x15]
                  rw [hE]
                  exact q_ireturn dX11_does_158 rfl rfl (by omega) (by omega) ⟨rfl, smo16, p16⟩
                · by_cases b24_119 : (cm p) = 119
                  · refine q_tableIn (off := 142) 166 dX11_does_24 (by rw [b24_119]; decide) (by rw [b24_119]; decide) (by rw [b24_119]; decide) (by decide) ?_
                    refine q_aload_n (by first | assumption | omega | decide | (rw [q_R0e]; omega)) dX11_does_166 rfl ?_
                    refine q_iload_n dX11_does_167 rfl ?_
                    refine q_iload_n dX11_does_168 rfl ?_
                    rcases x17 : x_mo_weighs al rs n (cm (p + 1)) (cm (p + 2)) with ⟨v17, y17_al, y17_rs⟩
                    have e9 := e_mo_weighs (g := g) (h := h) (d := d - 1) smo (cm (p + 1)) (cm (p + 2)) (by omega)
                    rw [x17] at e9
                    refine q_invV (mc' := 0) (ms' := 0) (d' := d - 1) (as := [.int (cm (p + 1)), .int (cm (p + 2))]) dX11_does_169 kM_X11_weighs kL_X11_150 kI_X11_weighs kS_X11_weighs rfl (kC_X11.1) smo.c0 rfl rfl (Nat.le_of_ble_eq_true rfl) (by omega) (by decide) (by omega) (by omega) (e9) (q_kC (fun h18 hB => ?_)) q_xC
                    obtain ⟨t18_0, pp18⟩ := hB
                    have smo18 := t18_0
                    have p18 := p0.trans (pp18.wide (by omega) (by omega))
                    have hb_mo_cg := smo18.bcg
                    have hb_mo_lz := smo18.blz
                    have hb_mo_ty := smo18.bty
                    have hb_mo_he := smo18.bhe
                    have hb_mo_cn := smo18.bcn
                    have hb_mo_n := smo18.bn
                    have hb_mo_mn := smo18.bmn
                    change q_W _ _ _ _ _ _ _ _ 172 [.ref (215), .int (nI (p)), .int (cm (p + 1)), .int (cm (p + 2))] [.int (v17)] _
                    have hE : x_mo_does al rs bf cm n mn p = (v17, y17_al, y17_rs, bf, n, mn) := by simp only [x_mo_does, if_neg b24_97, if_neg b24_98, if_neg b24_99, if_neg b24_101, if_neg b24_109, if_neg b24_110, if_neg b24_112, if_neg b24_116, if_pos b24_119, x17]
                    rw [hE]
                    exact q_ireturn dX11_does_172 rfl rfl (by omega) (by omega) ⟨rfl, smo18, p18⟩
                  · by_cases b24_121 : (cm p) = 121
                    · refine q_tableIn (off := 135) 159 dX11_does_24 (by rw [b24_121]; decide) (by rw [b24_121]; decide) (by rw [b24_121]; decide) (by decide) ?_
                      refine q_aload_n (by first | assumption | omega | decide | (rw [q_R0e]; omega)) dX11_does_159 rfl ?_
                      refine q_iload_n dX11_does_160 rfl ?_
                      refine q_iload_n dX11_does_161 rfl ?_
                      rcases x19 : x_mo_yields al rs n (cm (p + 1)) (cm (p + 2)) with ⟨v19, y19_al, y19_rs⟩
                      have e9 := e_mo_yields (g := g) (h := h) (d := d - 1) smo (cm (p + 1)) (cm (p + 2)) (by omega)
                      rw [x19] at e9
                      refine q_invV (mc' := 0) (ms' := 0) (d' := d - 1) (as := [.int (cm (p + 1)), .int (cm (p + 2))]) dX11_does_162 kM_X11_yields kL_X11_147 kI_X11_yields kS_X11_yields rfl (kC_X11.1) smo.c0 rfl rfl (Nat.le_of_ble_eq_true rfl) (by omega) (by decide) (by omega) (by omega) (e9) (q_kC (fun h20 hB => ?_)) q_xC
                      obtain ⟨t20_0, pp20⟩ := hB
                      have smo20 := t20_0
                      have p20 := p0.trans (pp20.wide (by omega) (by omega))
                      have hb_mo_cg := smo20.bcg
                      have hb_mo_lz := smo20.blz
                      have hb_mo_ty := smo20.bty
                      have hb_mo_he := smo20.bhe
                      have hb_mo_cn := smo20.bcn
                      have hb_mo_n := smo20.bn
                      have hb_mo_mn := smo20.bmn
                      change q_W _ _ _ _ _ _ _ _ 165 [.ref (215), .int (nI (p)), .int (cm (p + 1)), .int (cm (p + 2))] [.int (v19)] _
                      have hE : x_mo_does al rs bf cm n mn p = (v19, y19_al, y19_rs, bf, n, mn) := by simp only [x_mo_does, if_neg b24_97, if_neg b24_98, if_neg b24_99, if_neg b24_101, if_neg b24_109, if_neg b24_110, if_neg b24_112, if_neg b24_116, if_neg b24_119, if_pos b24_121, x19]
                      rw [hE]
                      exact q_ireturn dX11_does_165 rfl rfl (by omega) (by omega) ⟨rfl, smo20, p20⟩
                    · refine q_tableD (L := [97, 98, 99, 101, 109, 110, 112, 116, 119, 121]) 201 dX11_does_24 (by intro c hc; simp only [List.mem_cons, List.not_mem_nil, or_false] at hc; rcases hc with rfl | rfl | rfl | rfl | rfl | rfl | rfl | rfl | rfl | rfl <;> assumption) (by decide) (by decide) ?_
                      refine q_aload_n (by first | assumption | omega | decide | (rw [q_R0e]; omega)) dX11_does_201 rfl ?_
                      refine q_iload_n dX11_does_202 rfl ?_
                      rcases x21 : x_mo_passes al rs bf n (cm (p + 1)) with ⟨v21, y21_al, y21_rs, y21_bf⟩
                      have e9 := e_mo_passes (g := g) (h := h) (d := d - 1) smo (cm (p + 1)) (by omega)
                      rw [x21] at e9
                      refine q_invV (mc' := 0) (ms' := 0) (d' := d - 1) (as := [.int (cm (p + 1))]) dX11_does_203 kM_X11_passes kL_X11_175 kI_X11_passes kS_X11_passes rfl (kC_X11.1) smo.c0 rfl rfl (Nat.le_of_ble_eq_true rfl) (by omega) (by decide) (by omega) (by omega) (e9) (q_kC (fun h22 hB => ?_)) q_xC
                      obtain ⟨t22_0, pp22⟩ := hB
                      have smo22 := t22_0
                      have p22 := p0.trans (pp22.wide (by omega) (by omega))
                      have hb_mo_cg := smo22.bcg
                      have hb_mo_lz := smo22.blz
                      have hb_mo_ty := smo22.bty
                      have hb_mo_he := smo22.bhe
                      have hb_mo_cn := smo22.bcn
                      have hb_mo_n := smo22.bn
                      have hb_mo_mn := smo22.bmn
                      change q_W _ _ _ _ _ _ _ _ 206 [.ref (215), .int (nI (p)), .int (cm (p + 1)), .int (cm (p + 2))] [.int (v21)] _
                      have hE : x_mo_does al rs bf cm n mn p = (v21, y21_al, y21_rs, y21_bf, n, mn) := by simp only [x_mo_does, if_neg b24_97, if_neg b24_98, if_neg b24_99, if_neg b24_101, if_neg b24_109, if_neg b24_110, if_neg b24_112, if_neg b24_116, if_neg b24_119, if_neg b24_121, x21]
                      rw [hE]
                      exact q_ireturn dX11_does_206 rfl rfl (by omega) (by omega) ⟨rfl, smo22, p22⟩