def x_mo_does (al : Nat → Int32) (rs : Int32) (bf : Nat → Int32) (cm : Nat → Int32) (n : Nat) (mn : Nat) (p : Nat) : (Int32) × (Nat → Int32) × (Int32) × (Nat → Int32) × (Nat) × (Nat) := (if (cm p) = (97) then (match x_mo_adds al rs n (cm (p + 1)) with | (v1, y1_al, y1_rs, y1_n) => (v1, y1_al, y1_rs, bf, y1_n, mn)) else (if (cm p) = (98) then (match x_mo_takes al rs mn with | (v3, y3_al, y3_rs, y3_mn) => (v3, y3_al, y3_rs, bf, n, y3_mn)) else (if (cm p) = (99) then (match x_mo_claims al rs n mn (cm (p + 1)) with | (v5, y5_al, y5_rs, y5_mn) => (v5, y5_al, y5_rs, bf, n, y5_mn)) else (if (cm p) = (101) then (match x_mo_closes al rs mn with | (v7, y7_al, y7_rs, y7_mn) => (v7, y7_al, y7_rs, bf, n, y7_mn)) else (if (cm p) = (109) then (match x_mo_removes al rs n mn (cm (p + 1)) with | (v9, y9_al, y9_rs, y9_n, y9_mn) => (v9, y9_al, y9_rs, bf, y9_n, y9_mn)) else (if (cm p) = (110) then (match x_mo_renews al rs n (cm (p + 1)) with | (v11, y11_al, y11_rs) => (v11, y11_al, y11_rs, bf, n, mn)) else (if (cm p) = (112) then (match x_mo_replies al rs n mn (cm (p + 1)) with | (v13, y13_al, y13_rs, y13_mn) => (v13, y13_al, y13_rs, bf, n, y13_mn)) else (if (cm p) = (116) then (match x_mo_leads al rs n (cm (p + 1)) (cm (p + 2)) with | (v15, y15_al, y15_rs) => (v15, y15_al, y15_rs, bf, n, mn)) else (if (cm p) = (119) then (match x_mo_weighs al rs n (cm (p + 1)) (cm (p + 2)) with | (v17, y17_al, y17_rs) => (v17, y17_al, y17_rs, bf, n, mn)) else (if (cm p) = (121) then (match x_mo_yields al rs n (cm (p + 1)) (cm (p + 2)) with | (v19, y19_al, y19_rs) => (v19, y19_al, y19_rs, bf, n, mn)) else (match x_mo_passes al rs bf n (cm (p + 1)) with | (v21, y21_al, y21_rs, y21_bf) => (v21, y21_al, y21_rs, y21_bf, n, mn))))))))))))
set_option maxRecDepth 100000 in
set_option maxHeartbeats 8000000 in
theorem e_mo_does {g : q_G} {h : q_H} {d : Nat} {th : Int32} {al : Nat → Int32} {cg : Nat} {sv : Bool} {rs : Int32} {ac : Int32} {rj : Int32} {ro : Nat → Int32} {ad : Nat → Int32} {bf : Nat → Int32} {ln : Nat → Int32} {lz : Nat} {ip : Nat → Int32} {ty : Nat} {he : Nat} {er : Int32} {ea : Int32} {fa : Int32} {cm : Nat → Int32} {cn : Nat} {n : Nat} {mn : Nat} (smo : z_Mo h 215 th al cg sv rs ac rj ro ad bf ln lz ip ty he er ea fa cm cn n mn)  (p : Nat) (hlm : mn ≠ 0 → 0 < x_pl n al (al (39 + mn - 1))) (hp : p + 3 ≤ 183)  (hd : 6 ≤ d) : q_Spec g mX11_does d 0 0 [.ref (215), .int (nI (p))] h (q_chg (.inl (some (.int (x_mo_does al rs bf cm n mn p).1))) (fun h1 => z_Mo h1 215 th ((x_mo_does al rs bf cm n mn p).2.1) cg sv ((x_mo_does al rs bf cm n mn p).2.2.1) ac rj ro ad ((x_mo_does al rs bf cm n mn p).2.2.2.1) ln lz ip ty he er ea fa cm cn ((x_mo_does al rs bf cm n mn p).2.2.2.2.1) ((x_mo_does al rs bf cm n mn p).2.2.2.2.2) ∧ q_same h h1 215 8)) := by
  have hb_mo_cg := smo.bcg
  have hb_mo_lz := smo.blz
  have hb_mo_ty := smo.bty
  have hb_mo_he := smo.bhe
  have hb_mo_cn := smo.bcn
  have hb_mo_n := smo.bn
  have hb_mo_mn := smo.bmn
  have ho_mo_cg := smo.bcg
  have ho_mo_lz := smo.blz
  have ho_mo_ty := smo.bty
  have ho_mo_he := smo.bhe
  have ho_mo_cn := smo.bcn
  have ho_mo_n := smo.bn
  have ho_mo_mn := smo.bmn
  have p0 : q_same h h 215 8 := q_same.rfl'
  refine q_enter (by decide +kernel) rfl rfl (Nat.le_of_ble_eq_true rfl) (fun hz => ?_)
  change q_W _ _ _ _ _ _ _ _ _ [.ref (215), .int (nI (p)), q_u, q_u] [] _
  refine q_aload_n (by first | assumption | omega | decide | (rw [q_R0e]; omega)) dX11_does_0 rfl ?_
  refine q_getf (k := 18) (v := .ref (222)) kC_X11 kL_X11_37 rfl (by decide) dX11_does_1 smo.c0 rfl ?_
  refine q_iload_n dX11_does_4 rfl ?_
  refine q_iconst (v := 1) dX11_does_5 rfl ?_
  refine q_iaddN (a := p) (b := 1) dX11_does_6 ?_
  change q_W _ _ _ _ _ _ _ _ _ _ [.int (nI (p + 1)), .ref (222)] _
  refine q_ialdN (j := p + 1) (f := cm) dX11_does_7 smo.c7 (by omega) (by decide) ?_
  change q_W _ _ _ _ _ _ _ _ _ _ [.int (cm (p + 1))] _
  refine q_istore_n dX11_does_8 (by decide) rfl ?_
  change q_W _ _ _ _ _ _ _ _ _ [.ref (215), .int (nI (p)), .int (cm (p + 1)), q_u] [] _
  refine q_aload_n (by first | assumption | omega | decide | (rw [q_R0e]; omega)) dX11_does_9 rfl ?_
  refine q_getf (k := 18) (v := .ref (222)) kC_X11 kL_X11_37 rfl (by decide) dX11_does_10 smo.c0 rfl ?_
  refine q_iload_n dX11_does_13 rfl ?_
  refine q_iconst (v := 2) dX11_does_14 rfl ?_
  refine q_iaddN (a := p) (b := 2) dX11_does_15 ?_
  change q_W _ _ _ _ _ _ _ _ _ _ [.int (nI (p + 2)), .ref (222)] _
  refine q_ialdN (j := p + 2) (f := cm) dX11_does_16 smo.c7 (by omega) (by decide) ?_
  change q_W _ _ _ _ _ _ _ _ _ _ [.int (cm (p + 2))] _
  refine q_istore_n dX11_does_17 (by decide) rfl ?_
  change q_W _ _ _ _ _ _ _ _ _ [.ref (215), .int (nI (p)), .int (cm (p + 1)), .int (cm (p + 2))] [] _
  refine q_aload_n (by first | assumption | omega | decide | (rw [q_R0e]; omega)) dX11_does_18 rfl ?_
  refine q_getf (k := 18) (v := .ref (222)) kC_X11 kL_X11_37 rfl (by decide) dX11_does_19 smo.c0 rfl ?_
  refine q_iload_n dX11_does_22 rfl ?_
  refine q_ialdN (j := p) (f := cm) dX11_does_23 smo.c7 (by omega) (by decide) ?_
  change q_W _ _ _ _ _ _ _ _ _ _ [.int (cm p)] _
  by_cases b24_97 : (cm p) = 97
  · refine q_tableIn (off := 116) 140 dX11_does_24 (by rw [b24_97]; decide) (by rw [b24_97]; decide) (by rw [b24_97]; decide) (by decide) ?_
    refine q_aload_n (by first | assumption | omega | decide | (rw [q_R0e]; omega)) dX11_does_140 rfl ?_
    refine q_iload_n dX11_does_141 rfl ?_
    rcases x1 : x_mo_adds al rs n (cm (p + 1)) with ⟨v1, y1_al, y1_rs, y1_n⟩
    have e9 := e_mo_adds (g := g) (h := h) (d := d - 1) smo (cm (p + 1)) (by omega)
    rw [x1] at e9
    refine q_invV (mc' := 0) (ms' := 0) (d' := d - 1) (as := [.int (cm (p + 1))]) dX11_does_142 kM_X11_adds kL_X11_116 kI_X11_adds kS_X11_adds rfl (kC_X11.1) smo.c0 rfl rfl (Nat.le_of_ble_eq_true rfl) (by omega) (by decide) (by omega) (by omega) (e9) (q_kC (fun h2 hB => ?_)) q_xC
    obtain ⟨t2_0, pp2⟩ := hB
    have smo2 := t2_0
    have p2 := p0.trans (pp2.wide (by omega) (by omega))
    have hb_mo_cg := smo2.bcg
    have hb_mo_lz := smo2.blz
    have hb_mo_ty := smo2.bty
    have hb_mo_he := smo2.bhe
    have hb_mo_cn := smo2.bcn
    have hb_mo_n : y1_n ≤ 8 := smo2.bn
    have hb_mo_mn := smo2.bmn
    change q_W _ _ _ _ _ _ _ _ 145 [.ref (215), .int (nI (p)), .int (cm (p + 1)), .int (cm (p + 2))] [.int (v1)] _
    have hE : x_mo_does al rs bf cm n mn p = (v1, y1_al, y1_rs, bf, y1_n, mn) := by simp only [x_mo_does, if_pos b24_97, x1]
    rw [hE]
    exact q_ireturn dX11_does_145 rfl rfl (by omega) (by omega) ⟨rfl, smo2, p2⟩
  · by_cases b24_98 : (cm p) = 98
    · refine q_tableIn (off := 167) 191 dX11_does_24 (by rw [b24_98]; decide) (by rw [b24_98]; decide) (by rw [b24_98]; decide) (by decide) ?_
      refine q_aload_n (by first | assumption | omega | decide | (rw [q_R0e]; omega)) dX11_does_191 rfl ?_
      rcases x3 : x_mo_takes al rs mn with ⟨v3, y3_al, y3_rs, y3_mn⟩
      have e9 := e_mo_takes (g := g) (h := h) (d := d - 1) smo (by omega)
      rw [x3] at e9
      refine q_invV (mc' := 0) (ms' := 0) (d' := d - 1) (as := []) dX11_does_192 kM_X11_takes kL_X11_165 kI_X11_takes kS_X11_takes rfl (kC_X11.1) smo.c0 rfl rfl (Nat.le_of_ble_eq_true rfl) (by omega) (by decide) (by omega) (by omega) (e9) (q_kC (fun h4 hB => ?_)) q_xC
      obtain ⟨t4_0, pp4⟩ := hB
      have smo4 := t4_0
      have p4 := p0.trans (pp4.wide (by omega) (by omega))
      have hb_mo_cg := smo4.bcg
      have hb_mo_lz := smo4.blz
      have hb_mo_ty := smo4.bty
      have hb_mo_he := smo4.bhe
      have hb_mo_cn := smo4.bcn
      have hb_mo_n := smo4.bn
      have hb_mo_mn : y3_mn ≤ 12 := smo4.bmn
      change q_W _ _ _ _ _ _ _ _ 195 [.ref (215), .int (nI (p)), .int (cm (p + 1)), .int (cm (p + 2))] [.int (v3)] _
      have hE : x_mo_does al rs bf cm n mn p = (v3, y3_al, y3_rs, bf, n, y3_mn) := by simp only [x_mo_does, if_neg b24_97, if_pos b24_98, x3]
      rw [hE]
      exact q_ireturn dX11_does_195 rfl rfl (by omega) (by omega) ⟨rfl, smo4, p4⟩
    · by_cases b24_99 : (cm p) = 99
      · refine q_tableIn (off := 155) 179 dX11_does_24 (by rw [b24_99]; decide) (by rw [b24_99]; decide) (by rw [b24_99]; decide) (by decide) ?_
        refine q_aload_n (by first | assumption | omega | decide | (rw [q_R0e]; omega)) dX11_does_179 rfl ?_
        refine q_iload_n dX11_does_180 rfl ?_
        rcases x5 : x_mo_claims al rs n mn (cm (p + 1)) with ⟨v5, y5_al, y5_rs, y5_mn⟩
        have e9 := e_mo_claims (g := g) (h := h) (d := d - 1) smo (cm (p + 1)) (by omega)
        rw [x5] at e9
        refine q_invV (mc' := 0) (ms' := 0) (d' := d - 1) (as := [.int (cm (p + 1))]) dX11_does_181 kM_X11_claims kL_X11_156 kI_X11_claims kS_X11_claims rfl (kC_X11.1) smo.c0 rfl rfl (Nat.le_of_ble_eq_true rfl) (by omega) (by decide) (by omega) (by omega) (e9) (q_kC (fun h6 hB => ?_)) q_xC
        obtain ⟨t6_0, pp6⟩ := hB
        have smo6 := t6_0
        have p6 := p0.trans (pp6.wide (by omega) (by omega))
        have hb_mo_cg := smo6.bcg
        have hb_mo_lz := smo6.blz
        have hb_mo_ty := smo6.bty
        have hb_mo_he := smo6.bhe
        have hb_mo_cn := smo6.bcn
        have hb_mo_n := smo6.bn
        have hb_mo_mn : y5_mn ≤ 12 := smo6.bmn
        change q_W _ _ _ _ _ _ _ _ 184 [.ref (215), .int (nI (p)), .int (cm (p + 1)), .int (cm (p + 2))] [.int (v5)] _
        have hE : x_mo_does al rs bf cm n mn p = (v5, y5_al, y5_rs, bf, n, y5_mn) := by simp only [x_mo_does, if_neg b24_97, if_neg b24_98, if_pos b24_99, x5]
        rw [hE]
        exact q_ireturn dX11_does_184 rfl rfl (by omega) (by omega) ⟨rfl, smo6, p6⟩
      · by_cases b24_101 : (cm p) = 101
        · refine q_tableIn (off := 172) 196 dX11_does_24 (by rw [b24_101]; decide) (by rw [b24_101]; decide) (by rw [b24_101]; decide) (by decide) ?_
          refine q_aload_n (by first | assumption | omega | decide | (rw [q_R0e]; omega)) dX11_does_196 rfl ?_
          rcases x7 : x_mo_closes al rs mn with ⟨v7, y7_al, y7_rs, y7_mn⟩
          have e9 := e_mo_closes (g := g) (h := h) (d := d - 1) smo (by omega)
          rw [x7] at e9
          refine q_invV (mc' := 0) (ms' := 0) (d' := d - 1) (as := []) dX11_does_197 kM_X11_closes kL_X11_168 kI_X11_closes kS_X11_closes rfl (kC_X11.1) smo.c0 rfl rfl (Nat.le_of_ble_eq_true rfl) (by omega) (by decide) (by omega) (by omega) (e9) (q_kC (fun h8 hB => ?_)) q_xC
          obtain ⟨t8_0, pp8⟩ := hB
          have smo8 := t8_0
          have p8 := p0.trans (pp8.wide (by omega) (by omega))
          have hb_mo_cg := smo8.bcg
          have hb_mo_lz := smo8.blz
          have hb_mo_ty := smo8.bty
          have hb_mo_he := smo8.bhe
          have hb_mo_cn := smo8.bcn
          have hb_mo_n := smo8.bn
          have hb_mo_mn : y7_mn ≤ 12 := smo8.bmn
          change q_W _ _ _ _ _ _ _ _ 200 [.ref (215), .int (nI (p)), .int (cm (p + 1)), .int (cm (p + 2))] [.int (v7)] _
          have hE : x_mo_does al rs bf cm n mn p = (v7, y7_al, y7_rs, bf, n, y7_mn) := by simp only [x_mo_does, if_neg b24_97, if_neg b24_98, if_neg b24_99, if_pos b24_101, x7]
          rw [hE]
          exact q_ireturn dX11_does_200 rfl rfl (by omega) (by omega) ⟨rfl, smo8, p8⟩
        · by_cases b24_109 : (cm p) = 109
          · refine q_tableIn (off := 122) 146 dX11_does_24 (by rw [b24_109]; decide) (by rw [b24_109]; decide) (by rw [b24_109]; decide) (by decide) ?_
            refine q_aload_n (by first | assumption | omega | decide | (rw [q_R0e]; omega)) dX11_does_146 rfl ?_
            refine q_iload_n dX11_does_147 rfl ?_
            rcases x9 : x_mo_removes al rs n mn (cm (p + 1)) with ⟨v9, y9_al, y9_rs, y9_n, y9_mn⟩
            have e9 := e_mo_removes (g := g) (h := h) (d := d - 1) smo (cm (p + 1)) (by omega)
            rw [x9] at e9
            refine q_invV (mc' := 0) (ms' := 0) (d' := d - 1) (as := [.int (cm (p + 1))]) dX11_does_148 kM_X11_removes kL_X11_138 kI_X11_removes kS_X11_removes rfl (kC_X11.1) smo.c0 rfl rfl (Nat.le_of_ble_eq_true rfl) (by omega) (by decide) (by omega) (by omega) (e9) (q_kC (fun h10 hB => ?_)) q_xC
            obtain ⟨t10_0, pp10⟩ := hB
            have smo10 := t10_0
            have p10 := p0.trans (pp10.wide (by omega) (by omega))
            have hb_mo_cg := smo10.bcg
            have hb_mo_lz := smo10.blz
            have hb_mo_ty := smo10.bty
            have hb_mo_he := smo10.bhe
            have hb_mo_cn := smo10.bcn
            have hb_mo_n : y9_n ≤ 8 := smo10.bn
            have hb_mo_mn : y9_mn ≤ 12 := smo10.bmn
            change q_W _ _ _ _ _ _ _ _ 151 [.ref (215), .int (nI (p)), .int (cm (p + 1)), .int (cm (p + 2))] [.int (v9)] _
            have hE : x_mo_does al rs bf cm n mn p = (v9, y9_al, y9_rs, bf, y9_n, y9_mn) := by simp only [x_mo_does, if_neg b24_97, if_neg b24_98, if_neg b24_99, if_neg b24_101, if_pos b24_109, x9]
            rw [hE]
            exact q_ireturn dX11_does_151 rfl rfl (by omega) (by omega) ⟨rfl, smo10, p10⟩
          · by_cases b24_110 : (cm p) = 110
            · refine q_tableIn (off := 149) 173 dX11_does_24 (by rw [b24_110]; decide) (by rw [b24_110]; decide) (by rw [b24_110]; decide) (by decide) ?_
              refine q_aload_n (by first | assumption | omega | decide | (rw [q_R0e]; omega)) dX11_does_173 rfl ?_
              refine q_iload_n dX11_does_174 rfl ?_
              rcases x11 : x_mo_renews al rs n (cm (p + 1)) with ⟨v11, y11_al, y11_rs⟩
              have e9 := e_mo_renews (g := g) (h := h) (d := d - 1) smo (cm (p + 1)) (by omega)
              rw [x11] at e9
              refine q_invV (mc' := 0) (ms' := 0) (d' := d - 1) (as := [.int (cm (p + 1))]) dX11_does_175 kM_X11_renews kL_X11_153 kI_X11_renews kS_X11_renews rfl (kC_X11.1) smo.c0 rfl rfl (Nat.le_of_ble_eq_true rfl) (by omega) (by decide) (by omega) (by omega) (e9) (q_kC (fun h12 hB => ?_)) q_xC
              obtain ⟨t12_0, pp12⟩ := hB
              have smo12 := t12_0
              have p12 := p0.trans (pp12.wide (by omega) (by omega))
              have hb_mo_cg := smo12.bcg
              have hb_mo_lz := smo12.blz
              have hb_mo_ty := smo12.bty
              have hb_mo_he := smo12.bhe
              have hb_mo_cn := smo12.bcn
              have hb_mo_n := smo12.bn
              have hb_mo_mn := smo12.bmn
              change q_W _ _ _ _ _ _ _ _ 178 [.ref (215), .int (nI (p)), .int (cm (p + 1)), .int (cm (p + 2))] [.int (v11)] _
              have hE : x_mo_does al rs bf cm n mn p = (v11, y11_al, y11_rs, bf, n, mn) := by simp only [x_mo_does, if_neg b24_97, if_neg b24_98, if_neg b24_99, if_neg b24_101, if_neg b24_109, if_pos b24_110, x11]
              rw [hE]
              exact q_ireturn dX11_does_178 rfl rfl (by omega) (by omega) ⟨rfl, smo12, p12⟩
            · by_cases b24_112 : (cm p) = 112
              · refine q_tableIn (off := 161) 185 dX11_does_24 (by rw [b24_112]; decide) (by rw [b24_112]; decide) (by rw [b24_112]; decide) (by decide) ?_
                refine q_aload_n (by first | assumption | omega | decide | (rw [q_R0e]; omega)) dX11_does_185 rfl ?_
                refine q_iload_n dX11_does_186 rfl ?_
                rcases x13 : x_mo_replies al rs n mn (cm (p + 1)) with ⟨v13, y13_al, y13_rs, y13_mn⟩
                have e9 := e_mo_replies (g := g) (h := h) (d := d - 1) smo (cm (p + 1)) hlm (by omega)
                rw [x13] at e9
                refine q_invV (mc' := 0) (ms' := 0) (d' := d - 1) (as := [.int (cm (p + 1))]) dX11_does_187 kM_X11_replies kL_X11_162 kI_X11_replies kS_X11_replies rfl (kC_X11.1) smo.c0 rfl rfl (Nat.le_of_ble_eq_true rfl) (by omega) (by decide) (by omega) (by omega) (e9) (q_kC (fun h14 hB => ?_)) q_xC
                obtain ⟨t14_0, pp14⟩ := hB
                have smo14 := t14_0
                have p14 := p0.trans (pp14.wide (by omega) (by omega))
                have hb_mo_cg := smo14.bcg
                have hb_mo_lz := smo14.blz
                have hb_mo_ty := smo14.bty
                have hb_mo_he := smo14.bhe
                have hb_mo_cn := smo14.bcn
                have hb_mo_n := smo14.bn
                have hb_mo_mn : y13_mn ≤ 12 := smo14.bmn
                change q_W _ _ _ _ _ _ _ _ 190 [.ref (215), .int (nI (p)), .int (cm (p + 1)), .int (cm (p + 2))] [.int (v13)] _
                have hE : x_mo_does al rs bf cm n mn p = (v13, y13_al, y13_rs, bf, n, y13_mn) := by simp only [x_mo_does, if_neg b24_97, if_neg b24_98, if_neg b24_99, if_neg b24_101, if_neg b24_109, if_neg b24_110, if_pos b24_112, x13]
                rw [hE]
                exact q_ireturn dX11_does_190 rfl rfl (by omega) (by omega) ⟨rfl, smo14, p14⟩
              · by_cases b24_116 : (cm p) = 116
                · refine q_tableIn (off := 128) 152 dX11_does_24 (by rw [b24_116]; decide) (by rw [b24_116]; decide) (by rw [b24_116]; decide) (by decide) ?_
                  refine q_aload_n (by first | assumption | omega | decide | (rw [q_R0e]; omega)) dX11_does_152 rfl ?_
                  refine q_iload_n dX11_does_153 rfl ?_
                  refine q_iload_n dX11_does_154 rfl ?_
                  rcases x15 : x_mo_leads al rs n (cm (p + 1)) (cm (p + 2)) with ⟨v15, y15_al, y15_rs⟩
                  have e9 := e_mo_leads (g := g) (h := h) (d := d - 1) smo (cm (p + 1)) (cm (p + 2)) (by omega)
                  rw [x15] at e9
                  refine q_invV (mc' := 0) (ms' := 0) (d' := d - 1) (as := [.int (cm (p + 1)), .int (cm (p + 2))]) dX11_does_155 kM_X11_leads kL_X11_144 kI_X11_leads kS_X11_leads rfl (kC_X11.1) smo.c0 rfl rfl (Nat.le_of_ble_eq_true rfl) (by omega) (by decide) (by omega) (by omega) (e9) (q_kC (fun h16 hB => ?_)) q_xC
                  obtain ⟨t16_0, pp16⟩ := hB
                  have smo16 := t16_0
                  have p16 := p0.trans (pp16.wide (by omega) (by omega))
                  have hb_mo_cg := smo16.bcg
                  have hb_mo_lz := smo16.blz
                  have hb_mo_ty := smo16.bty
                  have hb_mo_he := smo16.bhe
                  have hb_mo_cn := smo16.bcn
                  have hb_mo_n := smo16.bn
                  have hb_mo_mn := smo16.bmn
                  change q_W _ _ _ _ _ _ _ _ 158 [.ref (215), .int (nI (p)), .int (cm (p + 1)), .int (cm (p + 2))] [.int (v15)] _
                  have hE : x_mo_does al rs bf cm n mn p = (v15, y15_al, y15_rs, bf, n, mn) := by simp only [x_mo_does, if_neg b24_97, if_neg b24_98, if_neg b24_99, if_neg b24_101, if_neg b24_109, if_neg b24_110, if_neg b24_112, if_pos b24_116, x15]
                  rw [hE]
                  exact q_ireturn dX11_does_158 rfl rfl (by omega) (by omega) ⟨rfl, smo16, p16⟩
                · by_cases b24_119 : (cm p) = 119
                  · refine q_tableIn (off := 142) 166 dX11_does_24 (by rw [b24_119]; decide) (by rw [b24_119]; decide) (by rw [b24_119]; decide) (by decide) ?_
                    refine q_aload_n (by first | assumption | omega | decide | (rw [q_R0e]; omega)) dX11_does_166 rfl ?_
                    refine q_iload_n dX11_does_167 rfl ?_
                    refine q_iload_n dX11_does_168 rfl ?_
                    rcases x17 : x_mo_weighs al rs n (cm (p + 1)) (cm (p + 2)) with ⟨v17, y17_al, y17_rs⟩
                    have e9 := e_mo_weighs (g := g) (h := h) (d := d - 1) smo (cm (p + 1)) (cm (p + 2)) (by omega)
                    rw [x17] at e9
                    refine q_invV (mc' := 0) (ms' := 0) (d' := d - 1) (as := [.int (cm (p + 1)), .int (cm (p + 2))]) dX11_does_169 kM_X11_weighs kL_X11_150 kI_X11_weighs kS_X11_weighs rfl (kC_X11.1) smo.c0 rfl rfl (Nat.le_of_ble_eq_true rfl) (by omega) (by decide) (by omega) (by omega) (e9) (q_kC (fun h18 hB => ?_)) q_xC
                    obtain ⟨t18_0, pp18⟩ := hB
                    have smo18 := t18_0
                    have p18 := p0.trans (pp18.wide (by omega) (by omega))
                    have hb_mo_cg := smo18.bcg
                    have hb_mo_lz := smo18.blz
                    have hb_mo_ty := smo18.bty
                    have hb_mo_he := smo18.bhe
                    have hb_mo_cn := smo18.bcn
                    have hb_mo_n := smo18.bn
                    have hb_mo_mn := smo18.bmn
                    change q_W _ _ _ _ _ _ _ _ 172 [.ref (215), .int (nI (p)), .int (cm (p + 1)), .int (cm (p + 2))] [.int (v17)] _
                    have hE : x_mo_does al rs bf cm n mn p = (v17, y17_al, y17_rs, bf, n, mn) := by simp only [x_mo_does, if_neg b24_97, if_neg b24_98, if_neg b24_99, if_neg b24_101, if_neg b24_109, if_neg b24_110, if_neg b24_112, if_neg b24_116, if_pos b24_119, x17]
                    rw [hE]
                    exact q_ireturn dX11_does_172 rfl rfl (by omega) (by omega) ⟨rfl, smo18, p18⟩
                  · by_cases b24_121 : (cm p) = 121
                    · refine q_tableIn (off := 135) 159 dX11_does_24 (by rw [b24_121]; decide) (by rw [b24_121]; decide) (by rw [b24_121]; decide) (by decide) ?_
                      refine q_aload_n (by first | assumption | omega | decide | (rw [q_R0e]; omega)) dX11_does_159 rfl ?_
                      refine q_iload_n dX11_does_160 rfl ?_
                      refine q_iload_n dX11_does_161 rfl ?_
                      rcases x19 : x_mo_yields al rs n (cm (p + 1)) (cm (p + 2)) with ⟨v19, y19_al, y19_rs⟩
                      have e9 := e_mo_yields (g := g) (h := h) (d := d - 1) smo (cm (p + 1)) (cm (p + 2)) (by omega)
                      rw [x19] at e9
                      refine q_invV (mc' := 0) (ms' := 0) (d' := d - 1) (as := [.int (cm (p + 1)), .int (cm (p + 2))]) dX11_does_162 kM_X11_yields kL_X11_147 kI_X11_yields kS_X11_yields rfl (kC_X11.1) smo.c0 rfl rfl (Nat.le_of_ble_eq_true rfl) (by omega) (by decide) (by omega) (by omega) (e9) (q_kC (fun h20 hB => ?_)) q_xC
                      obtain ⟨t20_0, pp20⟩ := hB
                      have smo20 := t20_0
                      have p20 := p0.trans (pp20.wide (by omega) (by omega))
                      have hb_mo_cg := smo20.bcg
                      have hb_mo_lz := smo20.blz
                      have hb_mo_ty := smo20.bty
                      have hb_mo_he := smo20.bhe
                      have hb_mo_cn := smo20.bcn
                      have hb_mo_n := smo20.bn
                      have hb_mo_mn := smo20.bmn
                      change q_W _ _ _ _ _ _ _ _ 165 [.ref (215), .int (nI (p)), .int (cm (p + 1)), .int (cm (p + 2))] [.int (v19)] _
                      have hE : x_mo_does al rs bf cm n mn p = (v19, y19_al, y19_rs, bf, n, mn) := by simp only [x_mo_does, if_neg b24_97, if_neg b24_98, if_neg b24_99, if_neg b24_101, if_neg b24_109, if_neg b24_110, if_neg b24_112, if_neg b24_116, if_neg b24_119, if_pos b24_121, x19]
                      rw [hE]
                      exact q_ireturn dX11_does_165 rfl rfl (by omega) (by omega) ⟨rfl, smo20, p20⟩
                    · refine q_tableD (L := [97, 98, 99, 101, 109, 110, 112, 116, 119, 121]) 201 dX11_does_24 (by intro c hc; simp only [List.mem_cons, List.not_mem_nil, or_false] at hc; rcases hc with rfl | rfl | rfl | rfl | rfl | rfl | rfl | rfl | rfl | rfl <;> assumption) (by decide) (by decide) ?_
                      refine q_aload_n (by first | assumption | omega | decide | (rw [q_R0e]; omega)) dX11_does_201 rfl ?_
                      refine q_iload_n dX11_does_202 rfl ?_
                      rcases x21 : x_mo_passes al rs bf n (cm (p + 1)) with ⟨v21, y21_al, y21_rs, y21_bf⟩
                      have e9 := e_mo_passes (g := g) (h := h) (d := d - 1) smo (cm (p + 1)) (by omega)
                      rw [x21] at e9
                      refine q_invV (mc' := 0) (ms' := 0) (d' := d - 1) (as := [.int (cm (p + 1))]) dX11_does_203 kM_X11_passes kL_X11_175 kI_X11_passes kS_X11_passes rfl (kC_X11.1) smo.c0 rfl rfl (Nat.le_of_ble_eq_true rfl) (by omega) (by decide) (by omega) (by omega) (e9) (q_kC (fun h22 hB => ?_)) q_xC
                      obtain ⟨t22_0, pp22⟩ := hB
                      have smo22 := t22_0
                      have p22 := p0.trans (pp22.wide (by omega) (by omega))
                      have hb_mo_cg := smo22.bcg
                      have hb_mo_lz := smo22.blz
                      have hb_mo_ty := smo22.bty
                      have hb_mo_he := smo22.bhe
                      have hb_mo_cn := smo22.bcn
                      have hb_mo_n := smo22.bn
                      have hb_mo_mn := smo22.bmn
                      change q_W _ _ _ _ _ _ _ _ 206 [.ref (215), .int (nI (p)), .int (cm (p + 1)), .int (cm (p + 2))] [.int (v21)] _
                      have hE : x_mo_does al rs bf cm n mn p = (v21, y21_al, y21_rs, y21_bf, n, mn) := by simp only [x_mo_does, if_neg b24_97, if_neg b24_98, if_neg b24_99, if_neg b24_101, if_neg b24_109, if_neg b24_110, if_neg b24_112, if_neg b24_116, if_neg b24_119, if_neg b24_121, x21]
                      rw [hE]
                      exact q_ireturn dX11_does_206 rfl rfl (by omega) (by omega) ⟨rfl, smo22, p22⟩
/-- the commands done one after another until one is refused -/
def x_ru_37 (cm : Nat → Int32) (cn : Nat) : Nat → Nat → (Nat → Int32) → Int32 → (Nat → Int32) → Nat → Nat → Nat × (Nat → Int32) × Int32 × (Nat → Int32) × Nat × Nat
  | 0, k, al, rs, bf, n, mn => (k, al, rs, bf, n, mn)
  | r + 1, k, al, rs, bf, n, mn => (if cn ≤ k then (k, al, rs, bf, n, mn) else (match x_mo_does al rs bf cm n mn (3 * k) with | (v1, y1_al, y1_rs, y1_bf, y1_n, y1_mn) => (if (v1) = (0) then x_ru_37 cm cn r (k + 1) y1_al y1_rs y1_bf y1_n y1_mn else (k, y1_al, y1_rs, y1_bf, y1_n, y1_mn))))
set_option maxRecDepth 100000 in
set_option maxHeartbeats 8000000 in
theorem l_mo_ru {g : q_G} {h : q_H} {d mc ms kc ks : Nat} {Q : q_O → q_H → Prop} {th : Int32} {cg : Nat} {sv : Bool} {ac : Int32} {rj : Int32} {ro : Nat → Int32} {ad : Nat → Int32} {ln : Nat → Int32} {lz : Nat} {ip : Nat → Int32} {ty : Nat} {he : Nat} {er : Int32} {ea : Int32} {fa : Int32} {cm : Nat → Int32} {cn : Nat} (hd : 7 ≤ d) (hkc : kc ≤ mc) (hks : ks ≤ ms) (Iv : (Nat → Int32) → Nat → Nat → Prop) (hIl : ∀ al n mn, Iv al n mn → mn ≠ 0 → 0 < x_pl n al (al (39 + mn - 1))) (hIs : ∀ al rs bf cm n mn p, Iv al n mn → Iv (x_mo_does al rs bf cm n mn p).2.1 (x_mo_does al rs bf cm n mn p).2.2.2.2.1 (x_mo_does al rs bf cm n mn p).2.2.2.2.2) : ∀ (r k : Nat) (al : Nat → Int32) (rs : Int32) (bf : Nat → Int32) (n mn : Nat) (hh : q_H) (smo : z_Mo hh 215 th al cg sv rs ac rj ro ad bf ln lz ip ty he er ea fa cm cn n mn) (pH : q_same h hh 215 8) (hr : cn < k + r) (hk : k ≤ cn) (hI : Iv al n mn) (K : ∀ k1 a1 b1 c1 n1 m1, x_ru_37 cm cn r k al rs bf n mn = (k1, a1, b1, c1, n1, m1) → ∀ h2, z_Mo h2 215 th a1 cg sv b1 ac rj ro ad c1 ln lz ip ty he er ea fa cm cn n1 m1 → q_same h h2 215 8 → k1 ≤ cn → q_W g mX11_run d mc ms Q kc ks 61 [.ref 215, .int (nI k1), q_u] [] h2), q_W g mX11_run d mc ms Q kc ks 37 [.ref 215, .int (nI k), q_u] [] hh := by
  intro r
  induction r with
  | zero =>
    intro k al rs bf n mn hh smo pH hr hk
    omega
  | succ r ih =>
    intro k al rs bf n mn hh smo pH hr hk hI K
    have hb_mo_cg := smo.bcg
    have hb_mo_lz := smo.blz
    have hb_mo_ty := smo.bty
    have hb_mo_he := smo.bhe
    have hb_mo_cn := smo.bcn
    have hb_mo_n := smo.bn
    have hb_mo_mn := smo.bmn
    refine q_iload_n dX11_run_37 rfl ?_
    refine q_aload_n (by first | assumption | omega | decide | (rw [q_R0e]; omega)) dX11_run_38 rfl ?_
    refine q_getf (k := 19) (v := .int (nI (cn))) kC_X11 kL_X11_254 rfl (by decide) dX11_run_39 smo.c0 rfl ?_
    refine q_icmp_ge 61 dX11_run_42 (by decide) (fun b42 => ?_) (fun b42 => ?_)
    · have b42 := (nI_leI (a := cn) (b := k) (by omega) (by omega)).mp b42
      exact K k al rs bf n mn (by simp only [x_ru_37, if_pos b42]) hh smo pH (by omega)
    · have b42 : ¬ (cn ≤ k) := fun q => b42 ((nI_leI (a := cn) (b := k) (by omega) (by omega)).mpr q)
      refine q_aload_n (by first | assumption | omega | decide | (rw [q_R0e]; omega)) dX11_run_45 rfl ?_
      refine q_iconst (v := 3) dX11_run_46 rfl ?_
      refine q_iload_n dX11_run_47 rfl ?_
      refine q_imulN (a := 3) (b := k) dX11_run_48 ?_
      change q_W _ _ _ _ _ _ _ _ _ _ [.int (nI (3 * k)), .ref (215)] _
      rcases x1 : x_mo_does al rs bf cm n mn (3 * k) with ⟨v1, y1_al, y1_rs, y1_bf, y1_n, y1_mn⟩
      have e9 := e_mo_does (g := g) (h := hh) (d := d - 1) smo (3 * k) (hIl _ _ _ hI) (by omega) (by omega)
      rw [x1] at e9
      refine q_invV (mc' := 0) (ms' := 0) (d' := d - 1) (as := [.int (nI (3 * k))]) dX11_run_49 kM_X11_does kL_X11_272 kI_X11_does kS_X11_does rfl (kC_X11.1) smo.c0 rfl rfl (Nat.le_of_ble_eq_true rfl) (by omega) (by decide) (by omega) (by omega) (e9) (q_kC (fun h2 hB => ?_)) q_xC
      obtain ⟨t2_0, pp2⟩ := hB
      have smo2 := t2_0
      have p2 := pH.trans (pp2.wide (by omega) (by omega))
      have hb_mo_cg := smo2.bcg
      have hb_mo_lz := smo2.blz
      have hb_mo_ty := smo2.bty
      have hb_mo_he := smo2.bhe
      have hb_mo_cn := smo2.bcn
      have hb_mo_n : y1_n ≤ 8 := smo2.bn
      have hb_mo_mn : y1_mn ≤ 12 := smo2.bmn
      change q_W _ _ _ _ _ _ _ _ 52 [.ref (215), .int (nI (k)), q_u] [.int (v1)] _
      refine q_if_ne 61 dX11_run_52 (by decide) (fun b52 => ?_) (fun b52 => ?_)
      · exact K k y1_al y1_rs y1_bf y1_n y1_mn (by simp only [x_ru_37, if_neg b42, x1, if_neg b52]) h2 smo2 p2 (by omega)
      · refine q_iinc (x := nI (k)) (v := nI (k + 1)) dX11_run_55 rfl (nI_add _ 1) rfl ?_
        change q_W _ _ _ _ _ _ _ _ _ [.ref (215), .int (nI (k + 1)), q_u] [] _
        refine q_goto 37 dX11_run_58 (by decide) ?_
        exact ih (k + 1) y1_al y1_rs y1_bf y1_n y1_mn h2 smo2 p2 (by omega) (by omega) (by have q9 := hIs al rs bf cm n mn (3 * k) hI; rw [x1] at q9; exact q9) (fun a b c e f g9 e9 h2 q1 q2 q3 => K a b c e f g9 (by simp only [x_ru_37, if_neg b42, x1, if_pos b52]; exact e9) h2 q1 q2 q3)
def x_mo_run (al : Nat → Int32) (cg : Nat) (rs : Int32) (bf : Nat → Int32) (ip : Nat → Int32) (ty : Nat) (ea : Int32) (fa : Int32) (cm : Nat → Int32) (n : Nat) (mn : Nat) : (Int32) × (Int32) × (Nat → Int32) × (Nat) × (Int32) × (Nat → Int32) × (Nat) × (Nat) × (Int32) × (Int32) × (Int32) × (Nat → Int32) × (Nat) := (match x_mo_parse ip ty cm with | (y1_he, y1_er, y1_cm, y1_cn) => (if (y1_er) < (0) then (match x_ru_37 y1_cm y1_cn (y1_cn + 1) 0 (x_cp al 0 10) rs bf n mn with | (a5_0, a5_1, a5_2, a5_3, a5_4, a5_5) => (if a5_0 = y1_cn then (match x_mo_ends a5_1 cg (nI (y1_cn)) 0 0 2 0 with | (v13, y13_th, y13_al, y13_cg) => (v13, y13_th, y13_al, y13_cg, nI (y1_cn), a5_3, 0, y1_he, y1_er, ea, fa, y1_cm, y1_cn)) else (match x_mo_ends a5_1 cg (nI (y1_cn)) 2 0 2 0 with | (v9, y9_th, y9_al, y9_cg) => (v9, y9_th, y9_al, y9_cg, nI (y1_cn), a5_3, 0, y1_he, y1_er, ea, nI (a5_0), y1_cm, y1_cn)))) else (0, 1, al, cg, rs, bf, 0, y1_he, y1_er, y1_er, fa, y1_cm, y1_cn)))
set_option maxRecDepth 100000 in
set_option maxHeartbeats 8000000 in
theorem e_mo_run {g : q_G} {h : q_H} {d : Nat} {th : Int32} {al : Nat → Int32} {cg : Nat} {sv : Bool} {rs : Int32} {ac : Int32} {rj : Int32} {ro : Nat → Int32} {ad : Nat → Int32} {bf : Nat → Int32} {ln : Nat → Int32} {lz : Nat} {ip : Nat → Int32} {ty : Nat} {he : Nat} {er : Int32} {ea : Int32} {fa : Int32} {cm : Nat → Int32} {cn : Nat} (smo : z_Mr h 215 th al cg sv rs ac rj ro ad bf ln lz ip ty he er ea fa cm cn)  (n : Nat) (mn : Nat) (Iv : (Nat → Int32) → Nat → Nat → Prop) (e0 : al 0 = nI n) (hn : n ≤ 8) (e3 : al 3 = nI mn) (hm : mn ≤ 12) (hI : Iv al n mn) (hIl : ∀ al n mn, Iv al n mn → mn ≠ 0 → 0 < x_pl n al (al (39 + mn - 1))) (hIs : ∀ al rs bf cm n mn p, Iv al n mn → Iv (x_mo_does al rs bf cm n mn p).2.1 (x_mo_does al rs bf cm n mn p).2.2.2.2.1 (x_mo_does al rs bf cm n mn p).2.2.2.2.2) (hIc : Iv al n mn → Iv (x_cp al 0 10) n mn)  (hd : 7 ≤ d) : q_Spec g mX11_run d 0 0 [.ref (215)] h (q_chg (.inl (some (.int (x_mo_run al cg rs bf ip ty ea fa cm n mn).1))) (fun h1 => z_Mr h1 215 ((x_mo_run al cg rs bf ip ty ea fa cm n mn).2.1) ((x_mo_run al cg rs bf ip ty ea fa cm n mn).2.2.1) ((x_mo_run al cg rs bf ip ty ea fa cm n mn).2.2.2.1) sv ((x_mo_run al cg rs bf ip ty ea fa cm n mn).2.2.2.2.1) ac rj ro ad ((x_mo_run al cg rs bf ip ty ea fa cm n mn).2.2.2.2.2.1) ln lz ip ((x_mo_run al cg rs bf ip ty ea fa cm n mn).2.2.2.2.2.2.1) ((x_mo_run al cg rs bf ip ty ea fa cm n mn).2.2.2.2.2.2.2.1) ((x_mo_run al cg rs bf ip ty ea fa cm n mn).2.2.2.2.2.2.2.2.1) ((x_mo_run al cg rs bf ip ty ea fa cm n mn).2.2.2.2.2.2.2.2.2.1) ((x_mo_run al cg rs bf ip ty ea fa cm n mn).2.2.2.2.2.2.2.2.2.2.1) ((x_mo_run al cg rs bf ip ty ea fa cm n mn).2.2.2.2.2.2.2.2.2.2.2.1) ((x_mo_run al cg rs bf ip ty ea fa cm n mn).2.2.2.2.2.2.2.2.2.2.2.2) ∧ q_same h h1 215 8)) := by
  have hb_mo_cg := smo.bcg
  have hb_mo_lz := smo.blz
  have hb_mo_ty := smo.bty
  have hb_mo_he := smo.bhe
  have hb_mo_cn := smo.bcn
  have ho_mo_cg := smo.bcg
  have ho_mo_lz := smo.blz
  have ho_mo_ty := smo.bty
  have ho_mo_he := smo.bhe
  have ho_mo_cn := smo.bcn
  have p0 : q_same h h 215 8 := q_same.rfl'
  refine q_enter (by decide +kernel) rfl rfl (Nat.le_of_ble_eq_true rfl) (fun hz => ?_)
  change q_W _ _ _ _ _ _ _ _ _ [.ref (215), q_u, q_u] [] _
  refine q_aload_n (by first | assumption | omega | decide | (rw [q_R0e]; omega)) dX11_run_0 rfl ?_
  rcases x1 : x_mo_parse ip ty cm with ⟨y1_he, y1_er, y1_cm, y1_cn⟩
  have e9 := e_mo_parse (g := g) (h := h) (d := d - 1) (smo.mo e0 hn e3 hm) (by omega)
  rw [x1] at e9
  refine q_invV (mc' := 0) (ms' := 0) (d' := d - 1) (as := []) dX11_run_1 kM_X11_parse kL_X11_269 kI_X11_parse kS_X11_parse rfl (kC_X11.1) smo.c0 rfl rfl (Nat.le_of_ble_eq_true rfl) (by omega) (by decide) (by omega) (by omega) (e9) (q_kC (fun h2 hB => ?_)) q_xC
  obtain ⟨t2_0, pp2⟩ := hB
  have smo2 := t2_0.raw
  have p2 := p0.trans (pp2.wide (by omega) (by omega))
  have hb_mo_cg := smo2.bcg
  have hb_mo_lz := smo2.blz
  have hb_mo_ty := smo2.bty
  have hb_mo_he : y1_he ≤ 60 := smo2.bhe
  have hb_mo_cn : y1_cn ≤ 61 := smo2.bcn
  change q_W _ _ _ _ _ _ _ _ 4 [.ref (215), q_u, q_u] [] _
  refine q_aload_n (by first | assumption | omega | decide | (rw [q_R0e]; omega)) dX11_run_4 rfl ?_
  refine q_iconst (v := 0) dX11_run_5 rfl ?_
  refine q_putf (k := 13) kC_X11 kL_X11_232 rfl (by decide) rfl dX11_run_6 smo2.c0 (Nat.le_of_ble_eq_true rfl) ⟨rfl, rfl⟩ rfl ?_
  refine z_genW (B := fun H => z_Mr H 215 th al cg sv rs ac rj ro ad bf ln lz ip 0 y1_he y1_er ea fa y1_cm y1_cn ∧ q_same h H 215 8) ⟨z_Mr.put0 smo2 (cg' := cg) (sv' := sv) (lz' := lz) (ty' := 0) (he' := y1_he) (cn' := y1_cn) (hbcg := by first | omega | (split <;> omega)) (hblz := by first | omega | (split <;> omega)) (hbty := by first | omega | (split <;> omega)) (hbhe := by first | omega | (split <;> omega)) (hbcn := by first | omega | (split <;> omega)), p2.trans (q_same.set (by omega) (by omega))⟩ (fun h3 hB => ?_)
  obtain ⟨smo3, p3⟩ := hB
  have hb_mo_cg := smo3.bcg
  have hb_mo_lz := smo3.blz
  have hb_mo_he : y1_he ≤ 60 := smo3.bhe
  have hb_mo_cn : y1_cn ≤ 61 := smo3.bcn
  refine q_aload_n (by first | assumption | omega | decide | (rw [q_R0e]; omega)) dX11_run_9 rfl ?_
  refine q_getf (k := 15) (v := .int (y1_er)) kC_X11 kL_X11_238 rfl (by decide) dX11_run_10 smo3.c0 rfl ?_
  refine q_if_lt 31 dX11_run_13 (by decide) (fun b13 => ?_) (fun b13 => ?_)
  · refine q_aload_n (by first | assumption | omega | decide | (rw [q_R0e]; omega)) dX11_run_31 rfl ?_
    refine q_invV (mc' := 0) (ms' := 0) (d' := d - 1) (as := []) dX11_run_32 kM_X11_begins kL_X11_113 kI_X11_begins kS_X11_begins rfl (kC_X11.1) smo3.c0 rfl rfl (Nat.le_of_ble_eq_true rfl) (by omega) (by decide) (by omega) (by omega) (e_mo_begins (d := d - 1) smo3 (by omega)) (q_kC (fun h4 hB => ?_)) q_xC
    obtain ⟨t4_0, pp4⟩ := hB
    have smo4 : z_Mr h4 215 th (x_cp al 0 10) cg sv rs ac rj ro ad bf ln lz ip 0 y1_he y1_er ea fa y1_cm y1_cn := t4_0
    have p4 := p3.trans (pp4.wide (by omega) (by omega))
    have hb_mo_cg := smo4.bcg
    have hb_mo_lz := smo4.blz
    have hb_mo_he : y1_he ≤ 60 := smo4.bhe
    have hb_mo_cn : y1_cn ≤ 61 := smo4.bcn
    change q_W _ _ _ _ _ _ _ _ 35 [.ref (215), q_u, q_u] [] _
    refine q_iconst (v := 0) dX11_run_35 rfl ?_
    refine q_istore_n dX11_run_36 (by decide) rfl ?_
    change q_W _ _ _ _ _ _ _ _ _ [.ref (215), .int (0), q_u] [] _
    change q_W _ _ _ _ _ _ _ _ 37 [.ref 215, .int (nI 0), q_u] [] _
    refine l_mo_ru (h := h) (by omega) (by omega) (by omega) Iv hIl hIs (y1_cn + 1) 0 (x_cp al 0 10) rs bf n mn h4 (smo4.mo ((x_cp_ne (by omega)).trans e0) hn ((x_cp_ne (by omega)).trans e3) hm) p4 (by omega) (by omega) (hIc hI) (fun a5_0 a5_1 a5_2 a5_3 a5_4 a5_5 x5 h6 t6 p6 hq6 => ?_)
    have smo6 := t6.raw
    have hb_mo_cg := smo6.bcg
    have hb_mo_lz := smo6.blz
    have hb_mo_he : y1_he ≤ 60 := smo6.bhe
    have hb_mo_cn : y1_cn ≤ 61 := smo6.bcn
    change q_W _ _ _ _ _ _ _ _ 61 [.ref (215), .int (nI (a5_0)), q_u] [] _
    refine q_iload_n dX11_run_61 rfl ?_
    refine q_aload_n (by first | assumption | omega | decide | (rw [q_R0e]; omega)) dX11_run_62 rfl ?_
    refine q_getf (k := 19) (v := .int (nI (y1_cn))) kC_X11 kL_X11_254 rfl (by decide) dX11_run_63 smo6.c0 rfl ?_
    refine q_icmp_ne 73 dX11_run_66 (by decide) (fun b66 => ?_) (fun b66 => ?_)
    · have b66 : ¬ (a5_0 = y1_cn) := fun q => b66 ((nI_eq (a := a5_0) (b := y1_cn) (by omega) (by omega)).mpr q)
      refine q_iconst (v := 0) dX11_run_73 rfl ?_
      refine q_istore_n dX11_run_74 (by decide) rfl ?_
      change q_W _ _ _ _ _ _ _ _ _ [.ref (215), .int (nI (a5_0)), .int (0)] [] _
      refine q_aload_n (by first | assumption | omega | decide | (rw [q_R0e]; omega)) dX11_run_75 rfl ?_
      refine q_iload_n dX11_run_76 rfl ?_
      refine q_if_eq 87 dX11_run_77 (by decide) (fun b77 => ?_) (fun b77 => ?_)
      · refine q_iload_n dX11_run_87 rfl ?_
        refine q_putf (k := 17) kC_X11 kL_X11_34 rfl (by decide) rfl dX11_run_88 smo6.c0 (Nat.le_of_ble_eq_true rfl) ⟨rfl, rfl⟩ rfl ?_
        refine z_genW (B := fun H => z_Mr H 215 th a5_1 cg sv a5_2 ac rj ro ad a5_3 ln lz ip 0 y1_he y1_er ea (nI (a5_0)) y1_cm y1_cn ∧ q_same h H 215 8) ⟨z_Mr.put0 smo6 (cg' := cg) (sv' := sv) (lz' := lz) (ty' := 0) (he' := y1_he) (cn' := y1_cn) (hbcg := by first | omega | (split <;> omega)) (hblz := by first | omega | (split <;> omega)) (hbty := by first | omega | (split <;> omega)) (hbhe := by first | omega | (split <;> omega)) (hbcn := by first | omega | (split <;> omega)), p6.trans (q_same.set (by omega) (by omega))⟩ (fun h7 hB => ?_)
        obtain ⟨smo7, p7⟩ := hB
        have hb_mo_cg := smo7.bcg
        have hb_mo_lz := smo7.blz
        have hb_mo_he : y1_he ≤ 60 := smo7.bhe
        have hb_mo_cn : y1_cn ≤ 61 := smo7.bcn
        refine q_aload_n (by first | assumption | omega | decide | (rw [q_R0e]; omega)) dX11_run_91 rfl ?_
        refine q_aload_n (by first | assumption | omega | decide | (rw [q_R0e]; omega)) dX11_run_92 rfl ?_
        refine q_getf (k := 19) (v := .int (nI (y1_cn))) kC_X11 kL_X11_254 rfl (by decide) dX11_run_93 smo7.c0 rfl ?_
        refine q_putf (k := 4) kC_X11 kL_X11_50 rfl (by decide) rfl dX11_run_96 smo7.c0 (Nat.le_of_ble_eq_true rfl) ⟨rfl, rfl⟩ rfl ?_
        refine z_genW (B := fun H => z_Mr H 215 th a5_1 cg sv (nI (y1_cn)) ac rj ro ad a5_3 ln lz ip 0 y1_he y1_er ea (nI (a5_0)) y1_cm y1_cn ∧ q_same h H 215 8) ⟨z_Mr.put0 smo7 (cg' := cg) (sv' := sv) (lz' := lz) (ty' := 0) (he' := y1_he) (cn' := y1_cn) (hbcg := by first | omega | (split <;> omega)) (hblz := by first | omega | (split <;> omega)) (hbty := by first | omega | (split <;> omega)) (hbhe := by first | omega | (split <;> omega)) (hbcn := by first | omega | (split <;> omega)), p7.trans (q_same.set (by omega) (by omega))⟩ (fun h8 hB => ?_)
        obtain ⟨smo8, p8⟩ := hB
        have hb_mo_cg := smo8.bcg
        have hb_mo_lz := smo8.blz
        have hb_mo_he : y1_he ≤ 60 := smo8.bhe
        have hb_mo_cn : y1_cn ≤ 61 := smo8.bcn
        refine q_aload_n (by first | assumption | omega | decide | (rw [q_R0e]; omega)) dX11_run_99 rfl ?_
        refine q_iload_n dX11_run_100 rfl ?_
        refine q_if_eq 108 dX11_run_101 (by decide) (fun b101 => ?_) (fun b101 => ?_)
        · refine q_iconst (v := 2) dX11_run_108 rfl ?_
          refine q_iconst (v := 0) dX11_run_109 rfl ?_
          refine q_iconst (v := 2) dX11_run_110 rfl ?_
          refine q_iconst (v := 0) dX11_run_111 rfl ?_
          rcases x9 : x_mo_ends a5_1 cg (nI (y1_cn)) 2 0 2 0 with ⟨v9, y9_th, y9_al, y9_cg⟩
          have e9 := e_mo_ends (g := g) (h := h8) (d := d - 1) smo8 2 0 2 0 (by omega)
          rw [x9] at e9
          refine q_invV (mc' := 0) (ms' := 0) (d' := d - 1) (as := [.int (2), .int (0), .int (2), .int (0)]) dX11_run_112 kM_X11_ends kL_X11_119 kI_X11_ends kS_X11_ends rfl (kC_X11.1) smo8.c0 rfl rfl (Nat.le_of_ble_eq_true rfl) (by omega) (by decide) (by omega) (by omega) (e9) (q_kC (fun h10 hB => ?_)) q_xC
          obtain ⟨t10_0, pp10⟩ := hB
          have smo10 := t10_0
          have p10 := p8.trans (pp10.wide (by omega) (by omega))
          have hb_mo_cg : y9_cg ≤ 8 := smo10.bcg
          have hb_mo_lz := smo10.blz
          have hb_mo_he : y1_he ≤ 60 := smo10.bhe
          have hb_mo_cn : y1_cn ≤ 61 := smo10.bcn
          change q_W _ _ _ _ _ _ _ _ 115 [.ref (215), .int (nI (a5_0)), .int (0)] [.int (v9)] _
          have hE : x_mo_run al cg rs bf ip ty ea fa cm n mn = (v9, y9_th, y9_al, y9_cg, nI (y1_cn), a5_3, 0, y1_he, y1_er, ea, nI (a5_0), y1_cm, y1_cn) := by simp only [x_mo_run, x1, if_pos b13, x5, if_neg b66, x9]
          rw [hE]
          exact q_ireturn dX11_run_115 rfl rfl (by omega) (by omega) ⟨rfl, smo10, p10⟩
        · exact absurd (by decide) b101
      · exact absurd (by decide) b77
    · have b66 := (nI_eq (a := a5_0) (b := y1_cn) (by omega) (by omega)).mp b66
      refine q_iconst (v := 1) dX11_run_69 rfl ?_
      refine q_goto 74 dX11_run_70 (by decide) ?_
      refine q_istore_n dX11_run_74 (by decide) rfl ?_
      change q_W _ _ _ _ _ _ _ _ _ [.ref (215), .int (nI (a5_0)), .int (1)] [] _
      refine q_aload_n (by first | assumption | omega | decide | (rw [q_R0e]; omega)) dX11_run_75 rfl ?_
      refine q_iload_n dX11_run_76 rfl ?_
      refine q_if_eq 87 dX11_run_77 (by decide) (fun b77 => ?_) (fun b77 => ?_)
      · exact absurd b77 (by decide)
      · refine q_aload_n (by first | assumption | omega | decide | (rw [q_R0e]; omega)) dX11_run_80 rfl ?_
        refine q_getf (k := 17) (v := .int (fa)) kC_X11 kL_X11_34 rfl (by decide) dX11_run_81 smo6.c0 rfl ?_
        refine q_goto 88 dX11_run_84 (by decide) ?_
        refine q_putf (k := 17) kC_X11 kL_X11_34 rfl (by decide) rfl dX11_run_88 smo6.c0 (Nat.le_of_ble_eq_true rfl) ⟨rfl, rfl⟩ rfl ?_
        refine z_genW (B := fun H => z_Mr H 215 th a5_1 cg sv a5_2 ac rj ro ad a5_3 ln lz ip 0 y1_he y1_er ea fa y1_cm y1_cn ∧ q_same h H 215 8) ⟨z_Mr.put0 smo6 (cg' := cg) (sv' := sv) (lz' := lz) (ty' := 0) (he' := y1_he) (cn' := y1_cn) (hbcg := by first | omega | (split <;> omega)) (hblz := by first | omega | (split <;> omega)) (hbty := by first | omega | (split <;> omega)) (hbhe := by first | omega | (split <;> omega)) (hbcn := by first | omega | (split <;> omega)), p6.trans (q_same.set (by omega) (by omega))⟩ (fun h11 hB => ?_)
        obtain ⟨smo11, p11⟩ := hB
        have hb_mo_cg := smo11.bcg
        have hb_mo_lz := smo11.blz
        have hb_mo_he : y1_he ≤ 60 := smo11.bhe
        have hb_mo_cn : y1_cn ≤ 61 := smo11.bcn
        refine q_aload_n (by first | assumption | omega | decide | (rw [q_R0e]; omega)) dX11_run_91 rfl ?_
        refine q_aload_n (by first | assumption | omega | decide | (rw [q_R0e]; omega)) dX11_run_92 rfl ?_
        refine q_getf (k := 19) (v := .int (nI (y1_cn))) kC_X11 kL_X11_254 rfl (by decide) dX11_run_93 smo11.c0 rfl ?_
        refine q_putf (k := 4) kC_X11 kL_X11_50 rfl (by decide) rfl dX11_run_96 smo11.c0 (Nat.le_of_ble_eq_true rfl) ⟨rfl, rfl⟩ rfl ?_
        refine z_genW (B := fun H => z_Mr H 215 th a5_1 cg sv (nI (y1_cn)) ac rj ro ad a5_3 ln lz ip 0 y1_he y1_er ea fa y1_cm y1_cn ∧ q_same h H 215 8) ⟨z_Mr.put0 smo11 (cg' := cg) (sv' := sv) (lz' := lz) (ty' := 0) (he' := y1_he) (cn' := y1_cn) (hbcg := by first | omega | (split <;> omega)) (hblz := by first | omega | (split <;> omega)) (hbty := by first | omega | (split <;> omega)) (hbhe := by first | omega | (split <;> omega)) (hbcn := by first | omega | (split <;> omega)), p11.trans (q_same.set (by omega) (by omega))⟩ (fun h12 hB => ?_)
        obtain ⟨smo12, p12⟩ := hB
        have hb_mo_cg := smo12.bcg
        have hb_mo_lz := smo12.blz
        have hb_mo_he : y1_he ≤ 60 := smo12.bhe
        have hb_mo_cn : y1_cn ≤ 61 := smo12.bcn
        refine q_aload_n (by first | assumption | omega | decide | (rw [q_R0e]; omega)) dX11_run_99 rfl ?_
        refine q_iload_n dX11_run_100 rfl ?_
        refine q_if_eq 108 dX11_run_101 (by decide) (fun b101 => ?_) (fun b101 => ?_)
        · exact absurd b101 (by decide)
        · refine q_iconst (v := 0) dX11_run_104 rfl ?_
          refine q_goto 109 dX11_run_105 (by decide) ?_
          refine q_iconst (v := 0) dX11_run_109 rfl ?_
          refine q_iconst (v := 2) dX11_run_110 rfl ?_
          refine q_iconst (v := 0) dX11_run_111 rfl ?_
          rcases x13 : x_mo_ends a5_1 cg (nI (y1_cn)) 0 0 2 0 with ⟨v13, y13_th, y13_al, y13_cg⟩
          have e9 := e_mo_ends (g := g) (h := h12) (d := d - 1) smo12 0 0 2 0 (by omega)
          rw [x13] at e9
          refine q_invV (mc' := 0) (ms' := 0) (d' := d - 1) (as := [.int (0), .int (0), .int (2), .int (0)]) dX11_run_112 kM_X11_ends kL_X11_119 kI_X11_ends kS_X11_ends rfl (kC_X11.1) smo12.c0 rfl rfl (Nat.le_of_ble_eq_true rfl) (by omega) (by decide) (by omega) (by omega) (e9) (q_kC (fun h14 hB => ?_)) q_xC
          obtain ⟨t14_0, pp14⟩ := hB
          have smo14 := t14_0
          have p14 := p12.trans (pp14.wide (by omega) (by omega))
          have hb_mo_cg : y13_cg ≤ 8 := smo14.bcg
          have hb_mo_lz := smo14.blz
          have hb_mo_he : y1_he ≤ 60 := smo14.bhe
          have hb_mo_cn : y1_cn ≤ 61 := smo14.bcn
          change q_W _ _ _ _ _ _ _ _ 115 [.ref (215), .int (nI (a5_0)), .int (1)] [.int (v13)] _
          have hE : x_mo_run al cg rs bf ip ty ea fa cm n mn = (v13, y13_th, y13_al, y13_cg, nI (y1_cn), a5_3, 0, y1_he, y1_er, ea, fa, y1_cm, y1_cn) := by simp only [x_mo_run, x1, if_pos b13, x5, if_pos b66, x13]
          rw [hE]
          exact q_ireturn dX11_run_115 rfl rfl (by omega) (by omega) ⟨rfl, smo14, p14⟩
  · refine q_aload_n (by first | assumption | omega | decide | (rw [q_R0e]; omega)) dX11_run_16 rfl ?_
    refine q_aload_n (by first | assumption | omega | decide | (rw [q_R0e]; omega)) dX11_run_17 rfl ?_
    refine q_getf (k := 15) (v := .int (y1_er)) kC_X11 kL_X11_238 rfl (by decide) dX11_run_18 smo3.c0 rfl ?_
    refine q_putf (k := 16) kC_X11 kL_X11_30 rfl (by decide) rfl dX11_run_21 smo3.c0 (Nat.le_of_ble_eq_true rfl) ⟨rfl, rfl⟩ rfl ?_
    refine z_genW (B := fun H => z_Mr H 215 th al cg sv rs ac rj ro ad bf ln lz ip 0 y1_he y1_er y1_er fa y1_cm y1_cn ∧ q_same h H 215 8) ⟨z_Mr.put0 smo3 (cg' := cg) (sv' := sv) (lz' := lz) (ty' := 0) (he' := y1_he) (cn' := y1_cn) (hbcg := by first | omega | (split <;> omega)) (hblz := by first | omega | (split <;> omega)) (hbty := by first | omega | (split <;> omega)) (hbhe := by first | omega | (split <;> omega)) (hbcn := by first | omega | (split <;> omega)), p3.trans (q_same.set (by omega) (by omega))⟩ (fun h15 hB => ?_)
    obtain ⟨smo15, p15⟩ := hB
    have hb_mo_cg := smo15.bcg
    have hb_mo_lz := smo15.blz
    have hb_mo_he : y1_he ≤ 60 := smo15.bhe
    have hb_mo_cn : y1_cn ≤ 61 := smo15.bcn
    refine q_aload_n (by first | assumption | omega | decide | (rw [q_R0e]; omega)) dX11_run_24 rfl ?_
    refine q_iconst (v := 1) dX11_run_25 rfl ?_
    refine q_putf (k := 0) kC_X11 kL_X11_40 rfl (by decide) rfl dX11_run_26 smo15.c0 (Nat.le_of_ble_eq_true rfl) ⟨rfl, rfl⟩ rfl ?_
    refine z_genW (B := fun H => z_Mr H 215 1 al cg sv rs ac rj ro ad bf ln lz ip 0 y1_he y1_er y1_er fa y1_cm y1_cn ∧ q_same h H 215 8) ⟨z_Mr.put0 smo15 (cg' := cg) (sv' := sv) (lz' := lz) (ty' := 0) (he' := y1_he) (cn' := y1_cn) (hbcg := by first | omega | (split <;> omega)) (hblz := by first | omega | (split <;> omega)) (hbty := by first | omega | (split <;> omega)) (hbhe := by first | omega | (split <;> omega)) (hbcn := by first | omega | (split <;> omega)), p15.trans (q_same.set (by omega) (by omega))⟩ (fun h16 hB => ?_)
    obtain ⟨smo16, p16⟩ := hB
    have hb_mo_cg := smo16.bcg
    have hb_mo_lz := smo16.blz
    have hb_mo_he : y1_he ≤ 60 := smo16.bhe
    have hb_mo_cn : y1_cn ≤ 61 := smo16.bcn
    refine q_iconst (v := 0) dX11_run_29 rfl ?_
    have hE : x_mo_run al cg rs bf ip ty ea fa cm n mn = (0, 1, al, cg, rs, bf, 0, y1_he, y1_er, y1_er, fa, y1_cm, y1_cn) := by simp only [x_mo_run, x1, if_neg b13]
    rw [hE]
    exact q_ireturn dX11_run_30 rfl rfl (by omega) (by omega) ⟨rfl, smo16, p16⟩