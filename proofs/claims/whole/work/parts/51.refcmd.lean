theorem q_tableD {g : q_G} {M : q_M} {d mc ms : Nat} {Q : q_O → q_H → Prop} {kc ks pc : Nat} {ls st : List Value} {h : q_H} {dflt lo hi : Int} {offs : Array Int} {len : Nat} {x : Int32} {L : List Int32} (tgt : Nat) (hd : decode M.2.1 pc = .ok (.tableswitch dflt lo hi offs, len)) (hne : ∀ c ∈ L, x ≠ c) (hall : ((List.range (hi - lo + 1).toNat).all (fun i => offs[i]? == some dflt || L.any (fun c => c.toInt == lo + (i : Int)))) = true) (ht : (pc : Int) + dflt = (tgt : Int)) (kk : q_W g M d mc ms Q kc ks tgt ls st h) : q_W g M d mc ms Q kc ks pc ls (.int x :: st) h := by
  by_cases h1 : x.toInt < lo
  · exact q_tableOut tgt hd (Or.inl h1) ht kk
  · by_cases h2 : hi < x.toInt
    · exact q_tableOut tgt hd (Or.inr h2) ht kk
    · refine q_tableIn tgt hd h1 h2 ?_ ht kk
      have q := List.all_eq_true.mp hall (x.toInt - lo).toNat (List.mem_range.mpr (by omega))
      rw [Bool.or_eq_true] at q
      rcases q with q | q
      · exact eq_of_beq q
      · obtain ⟨c, hc, e⟩ := List.any_eq_true.mp q
        have e1 := eq_of_beq e
        exact absurd (Int32.toInt_inj.mp (by omega)) (hne c hc)
theorem z_lookD {d : Int} {x : Int32} : ∀ (l : List (Int × Int)) (L : List Int32), (∀ c ∈ L, x ≠ c) → l.all (fun p => p.2 == d || L.any (fun c => c.toInt == p.1)) = true → Op.lookupswitch.offset l d x.toInt = d := by
  intro l
  induction l with
  | nil => intros; rfl
  | cons p r ih =>
    intro L h1 h2
    obtain ⟨a, o⟩ := p
    rw [List.all_cons, Bool.and_eq_true] at h2
    rw [Op.lookupswitch.offset_cons]
    split
    · next e =>
      rcases Bool.or_eq_true _ _ ▸ h2.1 with q | q
      · exact eq_of_beq q
      · obtain ⟨c, hc, e1⟩ := List.any_eq_true.mp q
        have e2 := eq_of_beq e1
        exact absurd (Int32.toInt_inj.mp (by rw [e2]; exact e.symm)) (h1 c hc)
    · exact ih L h1 h2.2
def x_mo_word (ip : Nat → Int32) (ty : Nat) (he : Nat) (er : Int32) (xs : Int32) : (Int32) × (Nat) × (Int32) := (if xs = (98) then (match x_mo_letters ip ty he er 97 99 107 with | (y1_he, y1_er) => (98, y1_he, y1_er)) else (if xs = (99) then (match x_mo_letters ip ty he er 108 97 105 with | (y3_he, y3_er) => (match x_mo_needs ip ty y3_he y3_er 109 with | (y5_he, y5_er) => (99, y5_he, y5_er))) else (if xs = (100) then (match x_mo_letters ip ty he er 97 121 115 with | (y7_he, y7_er) => (100, y7_he, y7_er)) else (if xs = (101) then (match x_mo_needs ip ty he er 110 with | (y9_he, y9_er) => (match x_mo_needs ip ty y9_he y9_er 100 with | (y11_he, y11_er) => (101, y11_he, y11_er))) else (if xs = (114) then (match x_mo_again ip ty he er with | (v13, y13_he, y13_er) => (v13, y13_he, y13_er)) else (if xs = (119) then (match x_mo_letters ip ty he er 101 105 103 with | (y15_he, y15_er) => (match x_mo_needs ip ty y15_he y15_er 104 with | (y17_he, y17_er) => (119, y17_he, y17_er))) else (if xs = (121) then (match x_mo_letters ip ty he er 105 101 108 with | (y19_he, y19_er) => (match x_mo_needs ip ty y19_he y19_er 100 with | (y21_he, y21_er) => (121, y21_he, y21_er))) else (if (x_mo_sign ip ty he) = (116) then (match x_mo_letters ip ty he er 116 116 97 with | (y27_he, y27_er) => (match x_mo_needs ip ty y27_he y27_er 99 with | (y29_he, y29_er) => (match x_mo_needs ip ty y29_he y29_er 107 with | (y31_he, y31_er) => (116, y31_he, y31_er)))) else (match x_mo_needs ip ty he er 100 with | (y23_he, y23_er) => (match x_mo_needs ip ty y23_he y23_er 100 with | (y25_he, y25_er) => (97, y25_he, y25_er)))))))))))
set_option maxRecDepth 100000 in
set_option maxHeartbeats 8000000 in
theorem e_mo_word {g : q_G} {h : q_H} {d : Nat} {th : Int32} {al : Nat → Int32} {cg : Nat} {sv : Bool} {rs : Int32} {ac : Int32} {rj : Int32} {ro : Nat → Int32} {ad : Nat → Int32} {bf : Nat → Int32} {ln : Nat → Int32} {lz : Nat} {ip : Nat → Int32} {ty : Nat} {he : Nat} {er : Int32} {ea : Int32} {fa : Int32} {cm : Nat → Int32} {cn : Nat} {n : Nat} {mn : Nat} (smo : z_Mo h 215 th al cg sv rs ac rj ro ad bf ln lz ip ty he er ea fa cm cn n mn)  (xs : Int32)   (hd : 4 ≤ d) : q_Spec g mX11_word d 0 0 [.ref (215), .int (xs)] h (q_chg (.inl (some (.int (x_mo_word ip ty he er xs).1))) (fun h1 => z_Mo h1 215 th al cg sv rs ac rj ro ad bf ln lz ip ty ((x_mo_word ip ty he er xs).2.1) ((x_mo_word ip ty he er xs).2.2) ea fa cm cn n mn ∧ q_same h h1 215 8)) := by
  have hb_mo_cg := smo.bcg
  have hb_mo_lz := smo.blz
  have hb_mo_ty := smo.bty
  have hb_mo_he := smo.bhe
  have hb_mo_cn := smo.bcn
  have hb_mo_n := smo.bn
  have hb_mo_mn := smo.bmn
  have ho_mo_cg := smo.bcg
  have ho_mo_lz := smo.blz
  have ho_mo_ty := smo.bty
  have ho_mo_he := smo.bhe
  have ho_mo_cn := smo.bcn
  have ho_mo_n := smo.bn
  have ho_mo_mn := smo.bmn
  have p0 : q_same h h 215 8 := q_same.rfl'
  refine q_enter (by decide +kernel) rfl rfl (Nat.le_of_ble_eq_true rfl) (fun hz => ?_)
  change q_W _ _ _ _ _ _ _ _ _ [.ref (215), .int (xs)] [] _
  refine q_iload_n dX11_word_0 rfl ?_
  by_cases b1_98 : xs = 98
  · refine q_tableIn (off := 173) 174 dX11_word_1 (by rw [b1_98]; decide) (by rw [b1_98]; decide) (by rw [b1_98]; decide) (by decide) ?_
    refine q_aload_n (by first | assumption | omega | decide | (rw [q_R0e]; omega)) dX11_word_174 rfl ?_
    refine q_bipush (v := 97) dX11_word_175 rfl ?_
    refine q_bipush (v := 99) dX11_word_177 rfl ?_
    refine q_bipush (v := 107) dX11_word_179 rfl ?_
    rcases x1 : x_mo_letters ip ty he er 97 99 107 with ⟨y1_he, y1_er⟩
    have e9 := e_mo_letters (g := g) (h := h) (d := d - 1) smo 97 99 107 (by first | assumption | decide) (by first | assumption | decide) (by first | assumption | decide) (by omega)
    rw [x1] at e9
    refine q_invV (mc' := 0) (ms' := 0) (d' := d - 1) (as := [.int (97), .int (99), .int (107)]) dX11_word_181 kM_X11_letters kL_X11_247 kI_X11_letters kS_X11_letters rfl (kC_X11.1) smo.c0 rfl rfl (Nat.le_of_ble_eq_true rfl) (by omega) (by decide) (by omega) (by omega) (e9) (q_kC (fun h2 hB => ?_)) q_xC
    obtain ⟨t2_0, pp2⟩ := hB
    have smo2 := t2_0
    have p2 := p0.trans (pp2.wide (by omega) (by omega))
    have hb_mo_cg := smo2.bcg
    have hb_mo_lz := smo2.blz
    have hb_mo_ty := smo2.bty
    have hb_mo_he : y1_he ≤ 60 := smo2.bhe
    have hb_mo_cn := smo2.bcn
    have hb_mo_n := smo2.bn
    have hb_mo_mn := smo2.bmn
    change q_W _ _ _ _ _ _ _ _ 184 [.ref (215), .int (xs)] [] _
    refine q_bipush (v := 98) dX11_word_184 rfl ?_
    have hE : x_mo_word ip ty he er xs = (98, y1_he, y1_er) := by simp only [x_mo_word, if_pos b1_98, x1]
    rw [hE]
    exact q_ireturn dX11_word_186 rfl rfl (by omega) (by omega) ⟨rfl, smo2, p2⟩
  · by_cases b1_99 : xs = 99
    · refine q_tableIn (off := 154) 155 dX11_word_1 (by rw [b1_99]; decide) (by rw [b1_99]; decide) (by rw [b1_99]; decide) (by decide) ?_
      refine q_aload_n (by first | assumption | omega | decide | (rw [q_R0e]; omega)) dX11_word_155 rfl ?_
      refine q_bipush (v := 108) dX11_word_156 rfl ?_
      refine q_bipush (v := 97) dX11_word_158 rfl ?_
      refine q_bipush (v := 105) dX11_word_160 rfl ?_
      rcases x3 : x_mo_letters ip ty he er 108 97 105 with ⟨y3_he, y3_er⟩
      have e9 := e_mo_letters (g := g) (h := h) (d := d - 1) smo 108 97 105 (by first | assumption | decide) (by first | assumption | decide) (by first | assumption | decide) (by omega)
      rw [x3] at e9
      refine q_invV (mc' := 0) (ms' := 0) (d' := d - 1) (as := [.int (108), .int (97), .int (105)]) dX11_word_162 kM_X11_letters kL_X11_247 kI_X11_letters kS_X11_letters rfl (kC_X11.1) smo.c0 rfl rfl (Nat.le_of_ble_eq_true rfl) (by omega) (by decide) (by omega) (by omega) (e9) (q_kC (fun h4 hB => ?_)) q_xC
      obtain ⟨t4_0, pp4⟩ := hB
      have smo4 := t4_0
      have p4 := p0.trans (pp4.wide (by omega) (by omega))
      have hb_mo_cg := smo4.bcg
      have hb_mo_lz := smo4.blz
      have hb_mo_ty := smo4.bty
      have hb_mo_he : y3_he ≤ 60 := smo4.bhe
      have hb_mo_cn := smo4.bcn
      have hb_mo_n := smo4.bn
      have hb_mo_mn := smo4.bmn
      change q_W _ _ _ _ _ _ _ _ 165 [.ref (215), .int (xs)] [] _
      refine q_aload_n (by first | assumption | omega | decide | (rw [q_R0e]; omega)) dX11_word_165 rfl ?_
      refine q_bipush (v := 109) dX11_word_166 rfl ?_
      rcases x5 : x_mo_needs ip ty y3_he y3_er 109 with ⟨y5_he, y5_er⟩
      have e9 := e_mo_needs (g := g) (h := h4) (d := d - 1) smo4 109 (by first | assumption | decide) (by omega)
      rw [x5] at e9
      refine q_invV (mc' := 0) (ms' := 0) (d' := d - 1) (as := [.int (109)]) dX11_word_168 kM_X11_needs kL_X11_244 kI_X11_needs kS_X11_needs rfl (kC_X11.1) smo4.c0 rfl rfl (Nat.le_of_ble_eq_true rfl) (by omega) (by decide) (by omega) (by omega) (e9) (q_kC (fun h6 hB => ?_)) q_xC
      obtain ⟨t6_0, pp6⟩ := hB
      have smo6 := t6_0
      have p6 := p4.trans (pp6.wide (by omega) (by omega))
      have hb_mo_cg := smo6.bcg
      have hb_mo_lz := smo6.blz
      have hb_mo_ty := smo6.bty
      have hb_mo_he : y5_he ≤ 60 := smo6.bhe
      have hb_mo_cn := smo6.bcn
      have hb_mo_n := smo6.bn
      have hb_mo_mn := smo6.bmn
      change q_W _ _ _ _ _ _ _ _ 171 [.ref (215), .int (xs)] [] _
      refine q_bipush (v := 99) dX11_word_171 rfl ?_
      have hE : x_mo_word ip ty he er xs = (99, y5_he, y5_er) := by simp only [x_mo_word, if_neg b1_98, if_pos b1_99, x3, x5]
      rw [hE]
      exact q_ireturn dX11_word_173 rfl rfl (by omega) (by omega) ⟨rfl, smo6, p6⟩
    · by_cases b1_100 : xs = 100
      · refine q_tableIn (off := 201) 202 dX11_word_1 (by rw [b1_100]; decide) (by rw [b1_100]; decide) (by rw [b1_100]; decide) (by decide) ?_
        refine q_aload_n (by first | assumption | omega | decide | (rw [q_R0e]; omega)) dX11_word_202 rfl ?_
        refine q_bipush (v := 97) dX11_word_203 rfl ?_
        refine q_bipush (v := 121) dX11_word_205 rfl ?_
        refine q_bipush (v := 115) dX11_word_207 rfl ?_
        rcases x7 : x_mo_letters ip ty he er 97 121 115 with ⟨y7_he, y7_er⟩
        have e9 := e_mo_letters (g := g) (h := h) (d := d - 1) smo 97 121 115 (by first | assumption | decide) (by first | assumption | decide) (by first | assumption | decide) (by omega)
        rw [x7] at e9
        refine q_invV (mc' := 0) (ms' := 0) (d' := d - 1) (as := [.int (97), .int (121), .int (115)]) dX11_word_209 kM_X11_letters kL_X11_247 kI_X11_letters kS_X11_letters rfl (kC_X11.1) smo.c0 rfl rfl (Nat.le_of_ble_eq_true rfl) (by omega) (by decide) (by omega) (by omega) (e9) (q_kC (fun h8 hB => ?_)) q_xC
        obtain ⟨t8_0, pp8⟩ := hB
        have smo8 := t8_0
        have p8 := p0.trans (pp8.wide (by omega) (by omega))
        have hb_mo_cg := smo8.bcg
        have hb_mo_lz := smo8.blz
        have hb_mo_ty := smo8.bty
        have hb_mo_he : y7_he ≤ 60 := smo8.bhe
        have hb_mo_cn := smo8.bcn
        have hb_mo_n := smo8.bn
        have hb_mo_mn := smo8.bmn
        change q_W _ _ _ _ _ _ _ _ 212 [.ref (215), .int (xs)] [] _
        refine q_bipush (v := 100) dX11_word_212 rfl ?_
        have hE : x_mo_word ip ty he er xs = (100, y7_he, y7_er) := by simp only [x_mo_word, if_neg b1_98, if_neg b1_99, if_pos b1_100, x7]
        rw [hE]
        exact q_ireturn dX11_word_214 rfl rfl (by omega) (by omega) ⟨rfl, smo8, p8⟩
      · by_cases b1_101 : xs = 101
        · refine q_tableIn (off := 186) 187 dX11_word_1 (by rw [b1_101]; decide) (by rw [b1_101]; decide) (by rw [b1_101]; decide) (by decide) ?_
          refine q_aload_n (by first | assumption | omega | decide | (rw [q_R0e]; omega)) dX11_word_187 rfl ?_
          refine q_bipush (v := 110) dX11_word_188 rfl ?_
          rcases x9 : x_mo_needs ip ty he er 110 with ⟨y9_he, y9_er⟩
          have e9 := e_mo_needs (g := g) (h := h) (d := d - 1) smo 110 (by first | assumption | decide) (by omega)
          rw [x9] at e9
          refine q_invV (mc' := 0) (ms' := 0) (d' := d - 1) (as := [.int (110)]) dX11_word_190 kM_X11_needs kL_X11_244 kI_X11_needs kS_X11_needs rfl (kC_X11.1) smo.c0 rfl rfl (Nat.le_of_ble_eq_true rfl) (by omega) (by decide) (by omega) (by omega) (e9) (q_kC (fun h10 hB => ?_)) q_xC
          obtain ⟨t10_0, pp10⟩ := hB
          have smo10 := t10_0
          have p10 := p0.trans (pp10.wide (by omega) (by omega))
          have hb_mo_cg := smo10.bcg
          have hb_mo_lz := smo10.blz
          have hb_mo_ty := smo10.bty
          have hb_mo_he : y9_he ≤ 60 := smo10.bhe
          have hb_mo_cn := smo10.bcn
          have hb_mo_n := smo10.bn
          have hb_mo_mn := smo10.bmn
          change q_W _ _ _ _ _ _ _ _ 193 [.ref (215), .int (xs)] [] _
          refine q_aload_n (by first | assumption | omega | decide | (rw [q_R0e]; omega)) dX11_word_193 rfl ?_
          refine q_bipush (v := 100) dX11_word_194 rfl ?_
          rcases x11 : x_mo_needs ip ty y9_he y9_er 100 with ⟨y11_he, y11_er⟩
          have e9 := e_mo_needs (g := g) (h := h10) (d := d - 1) smo10 100 (by first | assumption | decide) (by omega)
          rw [x11] at e9
          refine q_invV (mc' := 0) (ms' := 0) (d' := d - 1) (as := [.int (100)]) dX11_word_196 kM_X11_needs kL_X11_244 kI_X11_needs kS_X11_needs rfl (kC_X11.1) smo10.c0 rfl rfl (Nat.le_of_ble_eq_true rfl) (by omega) (by decide) (by omega) (by omega) (e9) (q_kC (fun h12 hB => ?_)) q_xC
          obtain ⟨t12_0, pp12⟩ := hB
          have smo12 := t12_0
          have p12 := p10.trans (pp12.wide (by omega) (by omega))
          have hb_mo_cg := smo12.bcg
          have hb_mo_lz := smo12.blz
          have hb_mo_ty := smo12.bty
          have hb_mo_he : y11_he ≤ 60 := smo12.bhe
          have hb_mo_cn := smo12.bcn
          have hb_mo_n := smo12.bn
          have hb_mo_mn := smo12.bmn
          change q_W _ _ _ _ _ _ _ _ 199 [.ref (215), .int (xs)] [] _
          refine q_bipush (v := 101) dX11_word_199 rfl ?_
          have hE : x_mo_word ip ty he er xs = (101, y11_he, y11_er) := by simp only [x_mo_word, if_neg b1_98, if_neg b1_99, if_neg b1_100, if_pos b1_101, x9, x11]
          rw [hE]
          exact q_ireturn dX11_word_201 rfl rfl (by omega) (by omega) ⟨rfl, smo12, p12⟩
        · by_cases b1_114 : xs = 114
          · refine q_tableIn (off := 111) 112 dX11_word_1 (by rw [b1_114]; decide) (by rw [b1_114]; decide) (by rw [b1_114]; decide) (by decide) ?_
            refine q_aload_n (by first | assumption | omega | decide | (rw [q_R0e]; omega)) dX11_word_112 rfl ?_
            rcases x13 : x_mo_again ip ty he er with ⟨v13, y13_he, y13_er⟩
            have e9 := e_mo_again (g := g) (h := h) (d := d - 1) smo (by omega)
            rw [x13] at e9
            refine q_invV (mc' := 0) (ms' := 0) (d' := d - 1) (as := []) dX11_word_113 kM_X11_again kL_X11_251 kI_X11_again kS_X11_again rfl (kC_X11.1) smo.c0 rfl rfl (Nat.le_of_ble_eq_true rfl) (by omega) (by decide) (by omega) (by omega) (e9) (q_kC (fun h14 hB => ?_)) q_xC
            obtain ⟨t14_0, pp14⟩ := hB
            have smo14 := t14_0
            have p14 := p0.trans (pp14.wide (by omega) (by omega))
            have hb_mo_cg := smo14.bcg
            have hb_mo_lz := smo14.blz
            have hb_mo_ty := smo14.bty
            have hb_mo_he : y13_he ≤ 60 := smo14.bhe
            have hb_mo_cn := smo14.bcn
            have hb_mo_n := smo14.bn
            have hb_mo_mn := smo14.bmn
            change q_W _ _ _ _ _ _ _ _ 116 [.ref (215), .int (xs)] [.int (v13)] _
            have hE : x_mo_word ip ty he er xs = (v13, y13_he, y13_er) := by simp only [x_mo_word, if_neg b1_98, if_neg b1_99, if_neg b1_100, if_neg b1_101, if_pos b1_114, x13]
            rw [hE]
            exact q_ireturn dX11_word_116 rfl rfl (by omega) (by omega) ⟨rfl, smo14, p14⟩
          · by_cases b1_119 : xs = 119
            · refine q_tableIn (off := 135) 136 dX11_word_1 (by rw [b1_119]; decide) (by rw [b1_119]; decide) (by rw [b1_119]; decide) (by decide) ?_
              refine q_aload_n (by first | assumption | omega | decide | (rw [q_R0e]; omega)) dX11_word_136 rfl ?_
              refine q_bipush (v := 101) dX11_word_137 rfl ?_
              refine q_bipush (v := 105) dX11_word_139 rfl ?_
              refine q_bipush (v := 103) dX11_word_141 rfl ?_
              rcases x15 : x_mo_letters ip ty he er 101 105 103 with ⟨y15_he, y15_er⟩
              have e9 := e_mo_letters (g := g) (h := h) (d := d - 1) smo 101 105 103 (by first | assumption | decide) (by first | assumption | decide) (by first | assumption | decide) (by omega)
              rw [x15] at e9
              refine q_invV (mc' := 0) (ms' := 0) (d' := d - 1) (as := [.int (101), .int (105), .int (103)]) dX11_word_143 kM_X11_letters kL_X11_247 kI_X11_letters kS_X11_letters rfl (kC_X11.1) smo.c0 rfl rfl (Nat.le_of_ble_eq_true rfl) (by omega) (by decide) (by omega) (by omega) (e9) (q_kC (fun h16 hB => ?_)) q_xC
              obtain ⟨t16_0, pp16⟩ := hB
              have smo16 := t16_0
              have p16 := p0.trans (pp16.wide (by omega) (by omega))
              have hb_mo_cg := smo16.bcg
              have hb_mo_lz := smo16.blz
              have hb_mo_ty := smo16.bty
              have hb_mo_he : y15_he ≤ 60 := smo16.bhe
              have hb_mo_cn := smo16.bcn
              have hb_mo_n := smo16.bn
              have hb_mo_mn := smo16.bmn
              change q_W _ _ _ _ _ _ _ _ 146 [.ref (215), .int (xs)] [] _
              refine q_aload_n (by first | assumption | omega | decide | (rw [q_R0e]; omega)) dX11_word_146 rfl ?_
              refine q_bipush (v := 104) dX11_word_147 rfl ?_
              rcases x17 : x_mo_needs ip ty y15_he y15_er 104 with ⟨y17_he, y17_er⟩
              have e9 := e_mo_needs (g := g) (h := h16) (d := d - 1) smo16 104 (by first | assumption | decide) (by omega)
              rw [x17] at e9
              refine q_invV (mc' := 0) (ms' := 0) (d' := d - 1) (as := [.int (104)]) dX11_word_149 kM_X11_needs kL_X11_244 kI_X11_needs kS_X11_needs rfl (kC_X11.1) smo16.c0 rfl rfl (Nat.le_of_ble_eq_true rfl) (by omega) (by decide) (by omega) (by omega) (e9) (q_kC (fun h18 hB => ?_)) q_xC
              obtain ⟨t18_0, pp18⟩ := hB
              have smo18 := t18_0
              have p18 := p16.trans (pp18.wide (by omega) (by omega))
              have hb_mo_cg := smo18.bcg
              have hb_mo_lz := smo18.blz
              have hb_mo_ty := smo18.bty
              have hb_mo_he : y17_he ≤ 60 := smo18.bhe
              have hb_mo_cn := smo18.bcn
              have hb_mo_n := smo18.bn
              have hb_mo_mn := smo18.bmn
              change q_W _ _ _ _ _ _ _ _ 152 [.ref (215), .int (xs)] [] _
              refine q_bipush (v := 119) dX11_word_152 rfl ?_
              have hE : x_mo_word ip ty he er xs = (119, y17_he, y17_er) := by simp only [x_mo_word, if_neg b1_98, if_neg b1_99, if_neg b1_100, if_neg b1_101, if_neg b1_114, if_pos b1_119, x15, x17]
              rw [hE]
              exact q_ireturn dX11_word_154 rfl rfl (by omega) (by omega) ⟨rfl, smo18, p18⟩
            · by_cases b1_121 : xs = 121
              · refine q_tableIn (off := 116) 117 dX11_word_1 (by rw [b1_121]; decide) (by rw [b1_121]; decide) (by rw [b1_121]; decide) (by decide) ?_
                refine q_aload_n (by first | assumption | omega | decide | (rw [q_R0e]; omega)) dX11_word_117 rfl ?_
                refine q_bipush (v := 105) dX11_word_118 rfl ?_
                refine q_bipush (v := 101) dX11_word_120 rfl ?_
                refine q_bipush (v := 108) dX11_word_122 rfl ?_
                rcases x19 : x_mo_letters ip ty he er 105 101 108 with ⟨y19_he, y19_er⟩
                have e9 := e_mo_letters (g := g) (h := h) (d := d - 1) smo 105 101 108 (by first | assumption | decide) (by first | assumption | decide) (by first | assumption | decide) (by omega)
                rw [x19] at e9
                refine q_invV (mc' := 0) (ms' := 0) (d' := d - 1) (as := [.int (105), .int (101), .int (108)]) dX11_word_124 kM_X11_letters kL_X11_247 kI_X11_letters kS_X11_letters rfl (kC_X11.1) smo.c0 rfl rfl (Nat.le_of_ble_eq_true rfl) (by omega) (by decide) (by omega) (by omega) (e9) (q_kC (fun h20 hB => ?_)) q_xC
                obtain ⟨t20_0, pp20⟩ := hB
                have smo20 := t20_0
                have p20 := p0.trans (pp20.wide (by omega) (by omega))
                have hb_mo_cg := smo20.bcg
                have hb_mo_lz := smo20.blz
                have hb_mo_ty := smo20.bty
                have hb_mo_he : y19_he ≤ 60 := smo20.bhe
                have hb_mo_cn := smo20.bcn
                have hb_mo_n := smo20.bn
                have hb_mo_mn := smo20.bmn
                change q_W _ _ _ _ _ _ _ _ 127 [.ref (215), .int (xs)] [] _
                refine q_aload_n (by first | assumption | omega | decide | (rw [q_R0e]; omega)) dX11_word_127 rfl ?_
                refine q_bipush (v := 100) dX11_word_128 rfl ?_
                rcases x21 : x_mo_needs ip ty y19_he y19_er 100 with ⟨y21_he, y21_er⟩
                have e9 := e_mo_needs (g := g) (h := h20) (d := d - 1) smo20 100 (by first | assumption | decide) (by omega)
                rw [x21] at e9
                refine q_invV (mc' := 0) (ms' := 0) (d' := d - 1) (as := [.int (100)]) dX11_word_130 kM_X11_needs kL_X11_244 kI_X11_needs kS_X11_needs rfl (kC_X11.1) smo20.c0 rfl rfl (Nat.le_of_ble_eq_true rfl) (by omega) (by decide) (by omega) (by omega) (e9) (q_kC (fun h22 hB => ?_)) q_xC
                obtain ⟨t22_0, pp22⟩ := hB
                have smo22 := t22_0
                have p22 := p20.trans (pp22.wide (by omega) (by omega))
                have hb_mo_cg := smo22.bcg
                have hb_mo_lz := smo22.blz
                have hb_mo_ty := smo22.bty
                have hb_mo_he : y21_he ≤ 60 := smo22.bhe
                have hb_mo_cn := smo22.bcn
                have hb_mo_n := smo22.bn
                have hb_mo_mn := smo22.bmn
                change q_W _ _ _ _ _ _ _ _ 133 [.ref (215), .int (xs)] [] _
                refine q_bipush (v := 121) dX11_word_133 rfl ?_
                have hE : x_mo_word ip ty he er xs = (121, y21_he, y21_er) := by simp only [x_mo_word, if_neg b1_98, if_neg b1_99, if_neg b1_100, if_neg b1_101, if_neg b1_114, if_neg b1_119, if_pos b1_121, x19, x21]
                rw [hE]
                exact q_ireturn dX11_word_135 rfl rfl (by omega) (by omega) ⟨rfl, smo22, p22⟩
              · refine q_tableD (L := [98, 99, 100, 101, 114, 119, 121]) 215 dX11_word_1 (by intro c hc; simp only [List.mem_cons, List.not_mem_nil, or_false] at hc; rcases hc with rfl | rfl | rfl | rfl | rfl | rfl | rfl <;> assumption) (by decide) (by decide) ?_
                refine q_aload_n (by first | assumption | omega | decide | (rw [q_R0e]; omega)) dX11_word_215 rfl ?_
                refine q_invV (mc' := 0) (ms' := 0) (d' := d - 1) (as := []) dX11_word_216 kM_X11_sign kL_X11_241 kI_X11_sign kS_X11_sign rfl (kC_X11.1) smo.c0 rfl rfl (Nat.le_of_ble_eq_true rfl) (by omega) (by decide) (by omega) (by omega) (e_mo_sign (d := d - 1) smo (by omega)) (q_kR ?_) q_xR
                change q_W _ _ _ _ _ _ _ _ 219 [.ref (215), .int (xs)] [.int (x_mo_sign ip ty he)] _
                refine q_bipush (v := 116) dX11_word_219 rfl ?_
                refine q_icmp_ne 249 dX11_word_221 (by decide) (fun b221 => ?_) (fun b221 => ?_)
                · refine q_aload_n (by first | assumption | omega | decide | (rw [q_R0e]; omega)) dX11_word_249 rfl ?_
                  refine q_bipush (v := 100) dX11_word_250 rfl ?_
                  rcases x23 : x_mo_needs ip ty he er 100 with ⟨y23_he, y23_er⟩
                  have e9 := e_mo_needs (g := g) (h := h) (d := d - 1) smo 100 (by first | assumption | decide) (by omega)
                  rw [x23] at e9
                  refine q_invV (mc' := 0) (ms' := 0) (d' := d - 1) (as := [.int (100)]) dX11_word_252 kM_X11_needs kL_X11_244 kI_X11_needs kS_X11_needs rfl (kC_X11.1) smo.c0 rfl rfl (Nat.le_of_ble_eq_true rfl) (by omega) (by decide) (by omega) (by omega) (e9) (q_kC (fun h24 hB => ?_)) q_xC
                  obtain ⟨t24_0, pp24⟩ := hB
                  have smo24 := t24_0
                  have p24 := p0.trans (pp24.wide (by omega) (by omega))
                  have hb_mo_cg := smo24.bcg
                  have hb_mo_lz := smo24.blz
                  have hb_mo_ty := smo24.bty
                  have hb_mo_he : y23_he ≤ 60 := smo24.bhe
                  have hb_mo_cn := smo24.bcn
                  have hb_mo_n := smo24.bn
                  have hb_mo_mn := smo24.bmn
                  change q_W _ _ _ _ _ _ _ _ 255 [.ref (215), .int (xs)] [] _
                  refine q_aload_n (by first | assumption | omega | decide | (rw [q_R0e]; omega)) dX11_word_255 rfl ?_
                  refine q_bipush (v := 100) dX11_word_256 rfl ?_
                  rcases x25 : x_mo_needs ip ty y23_he y23_er 100 with ⟨y25_he, y25_er⟩
                  have e9 := e_mo_needs (g := g) (h := h24) (d := d - 1) smo24 100 (by first | assumption | decide) (by omega)
                  rw [x25] at e9
                  refine q_invV (mc' := 0) (ms' := 0) (d' := d - 1) (as := [.int (100)]) dX11_word_258 kM_X11_needs kL_X11_244 kI_X11_needs kS_X11_needs rfl (kC_X11.1) smo24.c0 rfl rfl (Nat.le_of_ble_eq_true rfl) (by omega) (by decide) (by omega) (by omega) (e9) (q_kC (fun h26 hB => ?_)) q_xC
                  obtain ⟨t26_0, pp26⟩ := hB
                  have smo26 := t26_0
                  have p26 := p24.trans (pp26.wide (by omega) (by omega))
                  have hb_mo_cg := smo26.bcg
                  have hb_mo_lz := smo26.blz
                  have hb_mo_ty := smo26.bty
                  have hb_mo_he : y25_he ≤ 60 := smo26.bhe
                  have hb_mo_cn := smo26.bcn
                  have hb_mo_n := smo26.bn
                  have hb_mo_mn := smo26.bmn
                  change q_W _ _ _ _ _ _ _ _ 261 [.ref (215), .int (xs)] [] _
                  refine q_bipush (v := 97) dX11_word_261 rfl ?_
                  have hE : x_mo_word ip ty he er xs = (97, y25_he, y25_er) := by simp only [x_mo_word, if_neg b1_98, if_neg b1_99, if_neg b1_100, if_neg b1_101, if_neg b1_114, if_neg b1_119, if_neg b1_121, if_neg b221, x23, x25]
                  rw [hE]
                  exact q_ireturn dX11_word_263 rfl rfl (by omega) (by omega) ⟨rfl, smo26, p26⟩
                · refine q_aload_n (by first | assumption | omega | decide | (rw [q_R0e]; omega)) dX11_word_224 rfl ?_
                  refine q_bipush (v := 116) dX11_word_225 rfl ?_
                  refine q_bipush (v := 116) dX11_word_227 rfl ?_
                  refine q_bipush (v := 97) dX11_word_229 rfl ?_
                  rcases x27 : x_mo_letters ip ty he er 116 116 97 with ⟨y27_he, y27_er⟩
                  have e9 := e_mo_letters (g := g) (h := h) (d := d - 1) smo 116 116 97 (by first | assumption | decide) (by first | assumption | decide) (by first | assumption | decide) (by omega)
                  rw [x27] at e9
                  refine q_invV (mc' := 0) (ms' := 0) (d' := d - 1) (as := [.int (116), .int (116), .int (97)]) dX11_word_231 kM_X11_letters kL_X11_247 kI_X11_letters kS_X11_letters rfl (kC_X11.1) smo.c0 rfl rfl (Nat.le_of_ble_eq_true rfl) (by omega) (by decide) (by omega) (by omega) (e9) (q_kC (fun h28 hB => ?_)) q_xC
                  obtain ⟨t28_0, pp28⟩ := hB
                  have smo28 := t28_0
                  have p28 := p0.trans (pp28.wide (by omega) (by omega))
                  have hb_mo_cg := smo28.bcg
                  have hb_mo_lz := smo28.blz
                  have hb_mo_ty := smo28.bty
                  have hb_mo_he : y27_he ≤ 60 := smo28.bhe
                  have hb_mo_cn := smo28.bcn
                  have hb_mo_n := smo28.bn
                  have hb_mo_mn := smo28.bmn
                  change q_W _ _ _ _ _ _ _ _ 234 [.ref (215), .int (xs)] [] _
                  refine q_aload_n (by first | assumption | omega | decide | (rw [q_R0e]; omega)) dX11_word_234 rfl ?_
                  refine q_bipush (v := 99) dX11_word_235 rfl ?_
                  rcases x29 : x_mo_needs ip ty y27_he y27_er 99 with ⟨y29_he, y29_er⟩
                  have e9 := e_mo_needs (g := g) (h := h28) (d := d - 1) smo28 99 (by first | assumption | decide) (by omega)
                  rw [x29] at e9
                  refine q_invV (mc' := 0) (ms' := 0) (d' := d - 1) (as := [.int (99)]) dX11_word_237 kM_X11_needs kL_X11_244 kI_X11_needs kS_X11_needs rfl (kC_X11.1) smo28.c0 rfl rfl (Nat.le_of_ble_eq_true rfl) (by omega) (by decide) (by omega) (by omega) (e9) (q_kC (fun h30 hB => ?_)) q_xC
                  obtain ⟨t30_0, pp30⟩ := hB
                  have smo30 := t30_0
                  have p30 := p28.trans (pp30.wide (by omega) (by omega))
                  have hb_mo_cg := smo30.bcg
                  have hb_mo_lz := smo30.blz
                  have hb_mo_ty := smo30.bty
                  have hb_mo_he : y29_he ≤ 60 := smo30.bhe
                  have hb_mo_cn := smo30.bcn
                  have hb_mo_n := smo30.bn
                  have hb_mo_mn := smo30.bmn
                  change q_W _ _ _ _ _ _ _ _ 240 [.ref (215), .int (xs)] [] _
                  refine q_aload_n (by first | assumption | omega | decide | (rw [q_R0e]; omega)) dX11_word_240 rfl ?_
                  refine q_bipush (v := 107) dX11_word_241 rfl ?_
                  rcases x31 : x_mo_needs ip ty y29_he y29_er 107 with ⟨y31_he, y31_er⟩
                  have e9 := e_mo_needs (g := g) (h := h30) (d := d - 1) smo30 107 (by first | assumption | decide) (by omega)
                  rw [x31] at e9
                  refine q_invV (mc' := 0) (ms' := 0) (d' := d - 1) (as := [.int (107)]) dX11_word_243 kM_X11_needs kL_X11_244 kI_X11_needs kS_X11_needs rfl (kC_X11.1) smo30.c0 rfl rfl (Nat.le_of_ble_eq_true rfl) (by omega) (by decide) (by omega) (by omega) (e9) (q_kC (fun h32 hB => ?_)) q_xC
                  obtain ⟨t32_0, pp32⟩ := hB
                  have smo32 := t32_0
                  have p32 := p30.trans (pp32.wide (by omega) (by omega))
                  have hb_mo_cg := smo32.bcg
                  have hb_mo_lz := smo32.blz
                  have hb_mo_ty := smo32.bty
                  have hb_mo_he : y31_he ≤ 60 := smo32.bhe
                  have hb_mo_cn := smo32.bcn
                  have hb_mo_n := smo32.bn
                  have hb_mo_mn := smo32.bmn
                  change q_W _ _ _ _ _ _ _ _ 246 [.ref (215), .int (xs)] [] _
                  refine q_bipush (v := 116) dX11_word_246 rfl ?_
                  have hE : x_mo_word ip ty he er xs = (116, y31_he, y31_er) := by simp only [x_mo_word, if_neg b1_98, if_neg b1_99, if_neg b1_100, if_neg b1_101, if_neg b1_114, if_neg b1_119, if_neg b1_121, if_pos b221, x27, x29, x31]
                  rw [hE]
                  exact q_ireturn dX11_word_248 rfl rfl (by omega) (by omega) ⟨rfl, smo32, p32⟩
theorem z_sgf {ip : Nat → Int32} {ty he : Nat} (h : x_mo_isFirst (x_mo_sign ip ty he) = true) : he < ty := by
  unfold x_mo_sign at h
  split at h
  · exact absurd h (by decide)
  · omega
def x_mo_command_24 (cn : Nat) : Nat → Nat → (Nat → Int32) → (Nat → Int32)
  | 0, _, cm_24 => cm_24
  | r + 1, k, cm_24 => x_mo_command_24 cn r (k + 1) (upd cm_24 (3 * cn + k) (0))
set_option maxRecDepth 100000 in
set_option maxHeartbeats 8000000 in
theorem l_mo_command_24 {g : q_G} {h : q_H} {d mc ms kc ks : Nat} {Q : q_O → q_H → Prop} {th : Int32} {al : Nat → Int32} {cg : Nat} {sv : Bool} {rs : Int32} {ac : Int32} {rj : Int32} {ro : Nat → Int32} {ad : Nat → Int32} {bf : Nat → Int32} {ln : Nat → Int32} {lz : Nat} {ip : Nat → Int32} {ty : Nat} {he : Nat} {er : Int32} {ea : Int32} {fa : Int32} {cn : Nat} {n : Nat} {mn : Nat}   (hcn : cn ≤ 60) (ho_mo_cg : cg ≤ 8) (ho_mo_lz : lz ≤ 160) (ho_mo_ty : ty ≤ 60) (ho_mo_he : he ≤ 60) (ho_mo_cn : cn ≤ 61) (ho_mo_n : n ≤ 8) (ho_mo_mn : mn ≤ 12)  (hd : 0 ≤ d) (hkc : kc + 0 ≤ mc) (hks : ks + 0 ≤ ms) : ∀ (r k : Nat) (cm_24 : Nat → Int32) (hh : q_H) (smo_24 : z_Mo hh 215 th al cg sv rs ac rj ro ad bf ln lz ip ty he er ea fa cm_24 (cn + 1) n mn) (pH : q_same h hh 215 8) (hk_24 : k + r = 3) (K : ∀ (r24_0 : Nat → Int32), x_mo_command_24 cn r k cm_24 = r24_0 → ∀ h2, z_Mo h2 215 th al cg sv rs ac rj ro ad bf ln lz ip ty he er ea fa r24_0 (cn + 1) n mn → q_same h h2 215 8 → q_W g mX11_command d mc ms Q kc ks 44 [.ref (215), .int (nI (3 * cn)), .int (x_mo_sign ip ty he), q_u] [] h2), q_W g mX11_command d mc ms Q kc ks 24 [.ref (215), .int (nI (3 * cn)), .int (x_mo_sign ip ty he), .int (nI (k))] [] hh := by
  intro r
  induction r with
  | zero =>
    intro k cm_24 hh smo_24 pH hk_24 K
    have hb_mo_cg := smo_24.bcg
    have hb_mo_lz := smo_24.blz
    have hb_mo_ty := smo_24.bty
    have hb_mo_he := smo_24.bhe
    have hb_mo_cn := smo_24.bcn
    have hb_mo_n := smo_24.bn
    have hb_mo_mn := smo_24.bmn
    refine q_iload_n dX11_command_24 rfl ?_
    refine q_iconst (v := 3) dX11_command_25 rfl ?_
    refine q_icmp_ge 44 dX11_command_26 (by decide) (fun b26 => ?_) (fun b26 => ?_)
    · have b26 := (nI_leI (a := 3) (b := k) (by omega) (by omega)).mp b26
      refine q_forget 3 ?_
      change q_W _ _ _ _ _ _ _ _ _ [.ref (215), .int (nI (3 * cn)), .int (x_mo_sign ip ty he), q_u] [] _
      exact K cm_24 (by simp only [x_mo_command_24]) hh smo_24 pH
    · have b26 : ¬ (3 ≤ k) := fun q => b26 ((nI_leI (a := 3) (b := k) (by omega) (by omega)).mpr q)
      exact absurd b26 (by omega)
  | succ r ih =>
    intro k cm_24 hh smo_24 pH hk_24 K
    have hb_mo_cg := smo_24.bcg
    have hb_mo_lz := smo_24.blz
    have hb_mo_ty := smo_24.bty
    have hb_mo_he := smo_24.bhe
    have hb_mo_cn := smo_24.bcn
    have hb_mo_n := smo_24.bn
    have hb_mo_mn := smo_24.bmn
    refine q_iload_n dX11_command_24 rfl ?_
    refine q_iconst (v := 3) dX11_command_25 rfl ?_
    refine q_icmp_ge 44 dX11_command_26 (by decide) (fun b26 => ?_) (fun b26 => ?_)
    · have b26 := (nI_leI (a := 3) (b := k) (by omega) (by omega)).mp b26
      exact absurd b26 (by omega)
    · have b26 : ¬ (3 ≤ k) := fun q => b26 ((nI_leI (a := 3) (b := k) (by omega) (by omega)).mpr q)
      refine q_aload_n (by first | assumption | omega | decide | (rw [q_R0e]; omega)) dX11_command_29 rfl ?_
      refine q_getf (k := 18) (v := .ref (222)) kC_X11 kL_X11_37 rfl (by decide) dX11_command_30 smo_24.c0 rfl ?_
      refine q_iload_n dX11_command_33 rfl ?_
      refine q_iload_n dX11_command_34 rfl ?_
      refine q_iaddN (a := 3 * cn) (b := k) dX11_command_35 ?_
      change q_W _ _ _ _ _ _ _ _ _ _ [.int (nI (3 * cn + k)), .ref (222)] _
      refine q_iconst (v := 0) dX11_command_36 rfl ?_
      refine q_iastN (j := 3 * cn + k) dX11_command_37 smo_24.c7 (by omega) (by decide) ?_
      refine z_genW (B := fun H => z_Mo H 215 th al cg sv rs ac rj ro ad bf ln lz ip ty he er ea fa (upd cm_24 (3 * cn + k) (0)) (cn + 1) n mn ∧ q_same h H 215 8) ⟨z_Mo.put7 smo_24, pH.trans (q_same.set (by omega) (by omega))⟩ (fun h2 hB => ?_)
      obtain ⟨smo2, p2⟩ := hB
      have hb_mo_cg := smo2.bcg
      have hb_mo_lz := smo2.blz
      have hb_mo_ty := smo2.bty
      have hb_mo_he := smo2.bhe
      have hb_mo_cn := smo2.bcn
      have hb_mo_n := smo2.bn
      have hb_mo_mn := smo2.bmn
      refine q_iinc (x := nI (k)) (v := nI (k + 1)) dX11_command_38 rfl (nI_add _ 1) rfl ?_
      change q_W _ _ _ _ _ _ _ _ _ [.ref (215), .int (nI (3 * cn)), .int (x_mo_sign ip ty he), .int (nI (k + 1))] [] _
      refine q_goto 24 dX11_command_41 (by decide) ?_
      change q_W _ _ _ _ _ _ _ _ _ [.ref (215), .int (nI (3 * cn)), .int (x_mo_sign ip ty he), .int (nI (k + 1))] [] _
      exact ih (k + 1) (upd cm_24 (3 * cn + k) (0)) h2 smo2 p2 (by omega) (fun r24_0 e9 => K r24_0 (by simp only [x_mo_command_24]; exact e9))
def x_mo_command (ip : Nat → Int32) (ty : Nat) (he : Nat) (er : Int32) (cm : Nat → Int32) (cn : Nat) : (Nat) × (Int32) × (Nat → Int32) × (Nat) := (let a3_0 := x_mo_command_24 cn 3 0 cm; (if x_mo_isFirst (x_mo_sign ip ty he) then (match x_mo_word ip ty (he + 1) er (x_mo_sign ip ty he) with | (v7, y7_he, y7_er) => (if v7 = (97) then (match x_mo_behind ip ty y7_he y7_er 32 1 with | (v10, y10_he, y10_er) => (y10_he, y10_er, upd (upd a3_0 (3 * cn) (v7)) (3 * cn + 1) (v10), cn + 1)) else (if v7 = (98) then (y7_he, y7_er, upd a3_0 (3 * cn) (v7), cn + 1) else (if v7 = (101) then (y7_he, y7_er, upd a3_0 (3 * cn) (v7), cn + 1) else (if v7 = (116) then (match x_mo_behind ip ty y7_he y7_er 32 2 with | (v13, y13_he, y13_er) => (match x_mo_behind ip ty y13_he y13_er 62 2 with | (v16, y16_he, y16_er) => (y16_he, y16_er, upd (upd (upd a3_0 (3 * cn) (v7)) (3 * cn + 1) (v13)) (3 * cn + 2) (v16), cn + 1))) else (if v7 = (119) then (match x_mo_behind ip ty y7_he y7_er 32 2 with | (v19, y19_he, y19_er) => (match x_mo_behind ip ty y19_he y19_er 32 1 with | (v22, y22_he, y22_er) => (y22_he, y22_er, upd (upd (upd a3_0 (3 * cn) (v7)) (3 * cn + 1) (v19)) (3 * cn + 2) (v22), cn + 1))) else (if v7 = (121) then (match x_mo_behind ip ty y7_he y7_er 32 2 with | (v25, y25_he, y25_er) => (match x_mo_behind ip ty y25_he y25_er 62 2 with | (v28, y28_he, y28_er) => (y28_he, y28_er, upd (upd (upd a3_0 (3 * cn) (v7)) (3 * cn + 1) (v25)) (3 * cn + 2) (v28), cn + 1))) else (match x_mo_behind ip ty y7_he y7_er 32 2 with | (v31, y31_he, y31_er) => (y31_he, y31_er, upd (upd a3_0 (3 * cn) (v7)) (3 * cn + 1) (v31), cn + 1))))))))) else (he, nI (he), a3_0, cn + 1)))
set_option maxRecDepth 100000 in
set_option maxHeartbeats 8000000 in
theorem e_mo_command {g : q_G} {h : q_H} {d : Nat} {th : Int32} {al : Nat → Int32} {cg : Nat} {sv : Bool} {rs : Int32} {ac : Int32} {rj : Int32} {ro : Nat → Int32} {ad : Nat → Int32} {bf : Nat → Int32} {ln : Nat → Int32} {lz : Nat} {ip : Nat → Int32} {ty : Nat} {he : Nat} {er : Int32} {ea : Int32} {fa : Int32} {cm : Nat → Int32} {cn : Nat} {n : Nat} {mn : Nat} (smo : z_Mo h 215 th al cg sv rs ac rj ro ad bf ln lz ip ty he er ea fa cm cn n mn)   (hcn : cn ≤ 60)  (hd : 5 ≤ d) : q_Spec g mX11_command d 0 0 [.ref (215)] h (q_chg (.inl none) (fun h1 => z_Mo h1 215 th al cg sv rs ac rj ro ad bf ln lz ip ty ((x_mo_command ip ty he er cm cn).1) ((x_mo_command ip ty he er cm cn).2.1) ea fa ((x_mo_command ip ty he er cm cn).2.2.1) ((x_mo_command ip ty he er cm cn).2.2.2) n mn ∧ q_same h h1 215 8)) := by
  have hb_mo_cg := smo.bcg
  have hb_mo_lz := smo.blz
  have hb_mo_ty := smo.bty
  have hb_mo_he := smo.bhe
  have hb_mo_cn := smo.bcn
  have hb_mo_n := smo.bn
  have hb_mo_mn := smo.bmn
  have ho_mo_cg := smo.bcg
  have ho_mo_lz := smo.blz
  have ho_mo_ty := smo.bty
  have ho_mo_he := smo.bhe
  have ho_mo_cn := smo.bcn
  have ho_mo_n := smo.bn
  have ho_mo_mn := smo.bmn
  have p0 : q_same h h 215 8 := q_same.rfl'
  refine q_enter (by decide +kernel) rfl rfl (Nat.le_of_ble_eq_true rfl) (fun hz => ?_)
  change q_W _ _ _ _ _ _ _ _ _ [.ref (215), q_u, q_u, q_u] [] _
  refine q_iconst (v := 3) dX11_command_0 rfl ?_
  refine q_aload_n (by first | assumption | omega | decide | (rw [q_R0e]; omega)) dX11_command_1 rfl ?_
  refine q_getf (k := 19) (v := .int (nI (cn))) kC_X11 kL_X11_254 rfl (by decide) dX11_command_2 smo.c0 rfl ?_
  refine q_imulN (a := 3) (b := cn) dX11_command_5 ?_
  change q_W _ _ _ _ _ _ _ _ _ _ [.int (nI (3 * cn))] _
  refine q_istore_n dX11_command_6 (by decide) rfl ?_
  change q_W _ _ _ _ _ _ _ _ _ [.ref (215), .int (nI (3 * cn)), q_u, q_u] [] _
  refine q_aload_n (by first | assumption | omega | decide | (rw [q_R0e]; omega)) dX11_command_7 rfl ?_
  refine q_dup dX11_command_8 rfl ?_
  refine q_getf (k := 19) (v := .int (nI (cn))) kC_X11 kL_X11_254 rfl (by decide) dX11_command_9 smo.c0 rfl ?_
  refine q_iconst (v := 1) dX11_command_12 rfl ?_
  refine q_iaddN (a := cn) (b := 1) dX11_command_13 ?_
  change q_W _ _ _ _ _ _ _ _ _ _ [.int (nI (cn + 1)), .ref (215)] _
  refine q_putf (k := 19) kC_X11 kL_X11_254 rfl (by decide) rfl dX11_command_14 smo.c0 (Nat.le_of_ble_eq_true rfl) ⟨rfl, rfl⟩ rfl ?_
  refine z_genW (B := fun H => z_Mo H 215 th al cg sv rs ac rj ro ad bf ln lz ip ty he er ea fa cm (cn + 1) n mn ∧ q_same h H 215 8) ⟨z_Mo.put0 smo (cg' := cg) (sv' := sv) (lz' := lz) (ty' := ty) (he' := he) (cn' := cn + 1) (hbcg := by first | omega | (split <;> omega)) (hblz := by first | omega | (split <;> omega)) (hbty := by first | omega | (split <;> omega)) (hbhe := by first | omega | (split <;> omega)) (hbcn := by first | omega | (split <;> omega)), p0.trans (q_same.set (by omega) (by omega))⟩ (fun h1 hB => ?_)
  obtain ⟨smo1, p1⟩ := hB
  have hb_mo_cg := smo1.bcg
  have hb_mo_lz := smo1.blz
  have hb_mo_ty := smo1.bty
  have hb_mo_he := smo1.bhe
  have hb_mo_cn := smo1.bcn
  have hb_mo_n := smo1.bn
  have hb_mo_mn := smo1.bmn
  refine q_aload_n (by first | assumption | omega | decide | (rw [q_R0e]; omega)) dX11_command_17 rfl ?_
  refine q_invV (mc' := 0) (ms' := 0) (d' := d - 1) (as := []) dX11_command_18 kM_X11_sign kL_X11_241 kI_X11_sign kS_X11_sign rfl (kC_X11.1) smo1.c0 rfl rfl (Nat.le_of_ble_eq_true rfl) (by omega) (by decide) (by omega) (by omega) (e_mo_sign (d := d - 1) smo1 (by omega)) (q_kR ?_) q_xR
  change q_W _ _ _ _ _ _ _ _ 21 [.ref (215), .int (nI (3 * cn)), q_u, q_u] [.int (x_mo_sign ip ty he)] _
  refine q_istore_n dX11_command_21 (by decide) rfl ?_
  change q_W _ _ _ _ _ _ _ _ _ [.ref (215), .int (nI (3 * cn)), .int (x_mo_sign ip ty he), q_u] [] _
  refine q_iconst (v := 0) dX11_command_22 rfl ?_
  refine q_istore_n dX11_command_23 (by decide) rfl ?_
  change q_W _ _ _ _ _ _ _ _ _ [.ref (215), .int (nI (3 * cn)), .int (x_mo_sign ip ty he), .int (0)] [] _
  change q_W _ _ _ _ _ _ _ _ _ [.ref (215), .int (nI (3 * cn)), .int (x_mo_sign ip ty he), .int (0)] [] _
  refine l_mo_command_24 hcn ho_mo_cg ho_mo_lz ho_mo_ty ho_mo_he ho_mo_cn ho_mo_n ho_mo_mn (by omega) (by omega) (by omega) 3 0 cm h1 smo1 p1 (by omega) (fun a3_0 x3 h4 smo4 p4 => ?_)
  have hb_mo_cg := smo4.bcg
  have hb_mo_lz := smo4.blz
  have hb_mo_ty := smo4.bty
  have hb_mo_he := smo4.bhe
  have hb_mo_cn := smo4.bcn
  have hb_mo_n := smo4.bn
  have hb_mo_mn := smo4.bmn
  change q_W _ _ _ _ _ _ _ _ 44 [.ref (215), .int (nI (3 * cn)), .int (x_mo_sign ip ty he), q_u] [] _
  refine q_iload_n dX11_command_44 rfl ?_
  refine q_invS (mc' := 0) (ms' := 0) (d' := d - 1) (as := [.int (x_mo_sign ip ty he)]) dX11_command_45 kM_X11_isFirst kL_X11_257 kT_X11_isFirst rfl rfl rfl (Nat.le_of_ble_eq_true rfl) (by omega) (by decide) (by omega) (by omega) (e_mo_isFirst (d := d - 1) (x_mo_sign ip ty he) (by omega)) (q_kR ?_) q_xR
  change q_W _ _ _ _ _ _ _ _ 48 [.ref (215), .int (nI (3 * cn)), .int (x_mo_sign ip ty he), q_u] [.int (z_b (x_mo_isFirst (x_mo_sign ip ty he)))] _
  refine q_if_ne 60 dX11_command_48 (by decide) (fun b48 => ?_) (fun b48 => ?_)
  · have b48 := z_b1 b48
    have f5 : he < ty := z_sgf b48
    refine q_aload_n (by first | assumption | omega | decide | (rw [q_R0e]; omega)) dX11_command_60 rfl ?_
    refine q_dup dX11_command_61 rfl ?_
    refine q_getf (k := 14) (v := .int (nI (he))) kC_X11 kL_X11_235 rfl (by decide) dX11_command_62 smo4.c0 rfl ?_
    refine q_iconst (v := 1) dX11_command_65 rfl ?_
    refine q_iaddN (a := he) (b := 1) dX11_command_66 ?_
    change q_W _ _ _ _ _ _ _ _ _ _ [.int (nI (he + 1)), .ref (215)] _
    refine q_putf (k := 14) kC_X11 kL_X11_235 rfl (by decide) rfl dX11_command_67 smo4.c0 (Nat.le_of_ble_eq_true rfl) ⟨rfl, rfl⟩ rfl ?_
    refine z_genW (B := fun H => z_Mo H 215 th al cg sv rs ac rj ro ad bf ln lz ip ty (he + 1) er ea fa a3_0 (cn + 1) n mn ∧ q_same h H 215 8) ⟨z_Mo.put0 smo4 (cg' := cg) (sv' := sv) (lz' := lz) (ty' := ty) (he' := he + 1) (cn' := cn + 1) (hbcg := by first | omega | (split <;> omega)) (hblz := by first | omega | (split <;> omega)) (hbty := by first | omega | (split <;> omega)) (hbhe := by first | omega | (split <;> omega)) (hbcn := by first | omega | (split <;> omega)), p4.trans (q_same.set (by omega) (by omega))⟩ (fun h6 hB => ?_)
    obtain ⟨smo6, p6⟩ := hB
    have hb_mo_cg := smo6.bcg
    have hb_mo_lz := smo6.blz
    have hb_mo_ty := smo6.bty
    have hb_mo_he := smo6.bhe
    have hb_mo_cn := smo6.bcn
    have hb_mo_n := smo6.bn
    have hb_mo_mn := smo6.bmn
    refine q_aload_n (by first | assumption | omega | decide | (rw [q_R0e]; omega)) dX11_command_70 rfl ?_
    refine q_iload_n dX11_command_71 rfl ?_
    rcases x7 : x_mo_word ip ty (he + 1) er (x_mo_sign ip ty he) with ⟨v7, y7_he, y7_er⟩
    have e9 := e_mo_word (g := g) (h := h6) (d := d - 1) smo6 (x_mo_sign ip ty he) (by omega)
    rw [x7] at e9
    refine q_invV (mc' := 0) (ms' := 0) (d' := d - 1) (as := [.int (x_mo_sign ip ty he)]) dX11_command_72 kM_X11_word kL_X11_260 kI_X11_word kS_X11_word rfl (kC_X11.1) smo6.c0 rfl rfl (Nat.le_of_ble_eq_true rfl) (by omega) (by decide) (by omega) (by omega) (e9) (q_kC (fun h8 hB => ?_)) q_xC
    obtain ⟨t8_0, pp8⟩ := hB
    have smo8 := t8_0
    have p8 := p6.trans (pp8.wide (by omega) (by omega))
    have hb_mo_cg := smo8.bcg
    have hb_mo_lz := smo8.blz
    have hb_mo_ty := smo8.bty
    have hb_mo_he : y7_he ≤ 60 := smo8.bhe
    have hb_mo_cn := smo8.bcn
    have hb_mo_n := smo8.bn
    have hb_mo_mn := smo8.bmn
    change q_W _ _ _ _ _ _ _ _ 75 [.ref (215), .int (nI (3 * cn)), .int (x_mo_sign ip ty he), q_u] [.int (v7)] _
    refine q_istore_n dX11_command_75 (by decide) rfl ?_
    change q_W _ _ _ _ _ _ _ _ _ [.ref (215), .int (nI (3 * cn)), .int (x_mo_sign ip ty he), .int (v7)] [] _
    refine q_aload_n (by first | assumption | omega | decide | (rw [q_R0e]; omega)) dX11_command_76 rfl ?_
    refine q_getf (k := 18) (v := .ref (222)) kC_X11 kL_X11_37 rfl (by decide) dX11_command_77 smo8.c0 rfl ?_
    refine q_iload_n dX11_command_80 rfl ?_
    refine q_iload_n dX11_command_81 rfl ?_
    refine q_iastN (j := 3 * cn) dX11_command_82 smo8.c7 (by omega) (by decide) ?_
    refine z_genW (B := fun H => z_Mo H 215 th al cg sv rs ac rj ro ad bf ln lz ip ty y7_he y7_er ea fa (upd a3_0 (3 * cn) (v7)) (cn + 1) n mn ∧ q_same h H 215 8) ⟨z_Mo.put7 smo8, p8.trans (q_same.set (by omega) (by omega))⟩ (fun h9 hB => ?_)
    obtain ⟨smo9, p9⟩ := hB
    have hb_mo_cg := smo9.bcg
    have hb_mo_lz := smo9.blz
    have hb_mo_ty := smo9.bty
    have hb_mo_he : y7_he ≤ 60 := smo9.bhe
    have hb_mo_cn := smo9.bcn
    have hb_mo_n := smo9.bn
    have hb_mo_mn := smo9.bmn
    refine q_iload_n dX11_command_83 rfl ?_
    by_cases b84_97 : v7 = 97
    · refine q_lookup (off := 60) 144 dX11_command_84 (by decide) (by rw [b84_97]; decide) (by decide) ?_
      refine q_aload_n (by first | assumption | omega | decide | (rw [q_R0e]; omega)) dX11_command_144 rfl ?_
      refine q_getf (k := 18) (v := .ref (222)) kC_X11 kL_X11_37 rfl (by decide) dX11_command_145 smo9.c0 rfl ?_
      refine q_iload_n dX11_command_148 rfl ?_
      refine q_iconst (v := 1) dX11_command_149 rfl ?_
      refine q_iaddN (a := 3 * cn) (b := 1) dX11_command_150 ?_
      change q_W _ _ _ _ _ _ _ _ _ _ [.int (nI (3 * cn + 1)), .ref (222)] _
      refine q_aload_n (by first | assumption | omega | decide | (rw [q_R0e]; omega)) dX11_command_151 rfl ?_
      refine q_bipush (v := 32) dX11_command_152 rfl ?_
      refine q_iconst (v := 1) dX11_command_154 rfl ?_
      rcases x10 : x_mo_behind ip ty y7_he y7_er 32 1 with ⟨v10, y10_he, y10_er⟩
      have e9 := e_mo_behind (g := g) (h := h9) (d := d - 1) smo9 32 1 (by first | assumption | decide) (by omega) (by omega)
      rw [x10] at e9
      refine q_invV (mc' := 0) (ms' := 0) (d' := d - 1) (as := [.int (32), .int (1)]) dX11_command_155 kM_X11_behind kL_X11_263 kI_X11_behind kS_X11_behind rfl (kC_X11.1) smo9.c0 rfl rfl (Nat.le_of_ble_eq_true rfl) (by omega) (by decide) (by omega) (by omega) (e9) (q_kC (fun h11 hB => ?_)) q_xC
      obtain ⟨t11_0, pp11⟩ := hB
      have smo11 := t11_0
      have p11 := p9.trans (pp11.wide (by omega) (by omega))
      have hb_mo_cg := smo11.bcg
      have hb_mo_lz := smo11.blz
      have hb_mo_ty := smo11.bty
      have hb_mo_he : y10_he ≤ 60 := smo11.bhe
      have hb_mo_cn := smo11.bcn
      have hb_mo_n := smo11.bn
      have hb_mo_mn := smo11.bmn
      change q_W _ _ _ _ _ _ _ _ 158 [.ref (215), .int (nI (3 * cn)), .int (x_mo_sign ip ty he), .int (v7)] [.int (v10), .int (nI (3 * cn + 1)), .ref (222)] _
      refine q_iastN (j := 3 * cn + 1) dX11_command_158 smo11.c7 (by omega) (by decide) ?_
      refine z_genW (B := fun H => z_Mo H 215 th al cg sv rs ac rj ro ad bf ln lz ip ty y10_he y10_er ea fa (upd (upd a3_0 (3 * cn) (v7)) (3 * cn + 1) (v10)) (cn + 1) n mn ∧ q_same h H 215 8) ⟨z_Mo.put7 smo11, p11.trans (q_same.set (by omega) (by omega))⟩ (fun h12 hB => ?_)
      obtain ⟨smo12, p12⟩ := hB
      have hb_mo_cg := smo12.bcg
      have hb_mo_lz := smo12.blz
      have hb_mo_ty := smo12.bty
      have hb_mo_he : y10_he ≤ 60 := smo12.bhe
      have hb_mo_cn := smo12.bcn
      have hb_mo_n := smo12.bn
      have hb_mo_mn := smo12.bmn
      refine q_goto 246 dX11_command_159 (by decide) ?_
      have hE : x_mo_command ip ty he er cm cn = (y10_he, y10_er, upd (upd a3_0 (3 * cn) (v7)) (3 * cn + 1) (v10), cn + 1) := by simp only [x_mo_command, x3, if_pos b48, x7, if_pos b84_97, x10]
      rw [hE]
      exact q_return dX11_command_246 rfl (by omega) (by omega) ⟨rfl, smo12, p12⟩
    · by_cases b84_98 : v7 = 98
      · refine q_lookup (off := 144) 228 dX11_command_84 (by decide) (by rw [b84_98]; decide) (by decide) ?_
        refine q_goto 246 dX11_command_228 (by decide) ?_
        have hE : x_mo_command ip ty he er cm cn = (y7_he, y7_er, upd a3_0 (3 * cn) (v7), cn + 1) := by simp only [x_mo_command, x3, if_pos b48, x7, if_neg b84_97, if_pos b84_98]
        rw [hE]
        exact q_return dX11_command_246 rfl (by omega) (by omega) ⟨rfl, smo9, p9⟩
      · by_cases b84_101 : v7 = 101
        · refine q_lookup (off := 144) 228 dX11_command_84 (by decide) (by rw [b84_101]; decide) (by decide) ?_
          refine q_goto 246 dX11_command_228 (by decide) ?_
          have hE : x_mo_command ip ty he er cm cn = (y7_he, y7_er, upd a3_0 (3 * cn) (v7), cn + 1) := by simp only [x_mo_command, x3, if_pos b48, x7, if_neg b84_97, if_neg b84_98, if_pos b84_101]
          rw [hE]
          exact q_return dX11_command_246 rfl (by omega) (by omega) ⟨rfl, smo9, p9⟩
        · by_cases b84_116 : v7 = 116
          · refine q_lookup (off := 78) 162 dX11_command_84 (by decide) (by rw [b84_116]; decide) (by decide) ?_
            refine q_aload_n (by first | assumption | omega | decide | (rw [q_R0e]; omega)) dX11_command_162 rfl ?_
            refine q_getf (k := 18) (v := .ref (222)) kC_X11 kL_X11_37 rfl (by decide) dX11_command_163 smo9.c0 rfl ?_
            refine q_iload_n dX11_command_166 rfl ?_
            refine q_iconst (v := 1) dX11_command_167 rfl ?_
            refine q_iaddN (a := 3 * cn) (b := 1) dX11_command_168 ?_
            change q_W _ _ _ _ _ _ _ _ _ _ [.int (nI (3 * cn + 1)), .ref (222)] _
            refine q_aload_n (by first | assumption | omega | decide | (rw [q_R0e]; omega)) dX11_command_169 rfl ?_
            refine q_bipush (v := 32) dX11_command_170 rfl ?_
            refine q_iconst (v := 2) dX11_command_172 rfl ?_
            rcases x13 : x_mo_behind ip ty y7_he y7_er 32 2 with ⟨v13, y13_he, y13_er⟩
            have e9 := e_mo_behind (g := g) (h := h9) (d := d - 1) smo9 32 2 (by first | assumption | decide) (by omega) (by omega)
            rw [x13] at e9
            refine q_invV (mc' := 0) (ms' := 0) (d' := d - 1) (as := [.int (32), .int (2)]) dX11_command_173 kM_X11_behind kL_X11_263 kI_X11_behind kS_X11_behind rfl (kC_X11.1) smo9.c0 rfl rfl (Nat.le_of_ble_eq_true rfl) (by omega) (by decide) (by omega) (by omega) (e9) (q_kC (fun h14 hB => ?_)) q_xC
            obtain ⟨t14_0, pp14⟩ := hB
            have smo14 := t14_0
            have p14 := p9.trans (pp14.wide (by omega) (by omega))
            have hb_mo_cg := smo14.bcg
            have hb_mo_lz := smo14.blz
            have hb_mo_ty := smo14.bty
            have hb_mo_he : y13_he ≤ 60 := smo14.bhe
            have hb_mo_cn := smo14.bcn
            have hb_mo_n := smo14.bn
            have hb_mo_mn := smo14.bmn
            change q_W _ _ _ _ _ _ _ _ 176 [.ref (215), .int (nI (3 * cn)), .int (x_mo_sign ip ty he), .int (v7)] [.int (v13), .int (nI (3 * cn + 1)), .ref (222)] _
            refine q_iastN (j := 3 * cn + 1) dX11_command_176 smo14.c7 (by omega) (by decide) ?_
            refine z_genW (B := fun H => z_Mo H 215 th al cg sv rs ac rj ro ad bf ln lz ip ty y13_he y13_er ea fa (upd (upd a3_0 (3 * cn) (v7)) (3 * cn + 1) (v13)) (cn + 1) n mn ∧ q_same h H 215 8) ⟨z_Mo.put7 smo14, p14.trans (q_same.set (by omega) (by omega))⟩ (fun h15 hB => ?_)
            obtain ⟨smo15, p15⟩ := hB
            have hb_mo_cg := smo15.bcg
            have hb_mo_lz := smo15.blz
            have hb_mo_ty := smo15.bty
            have hb_mo_he : y13_he ≤ 60 := smo15.bhe
            have hb_mo_cn := smo15.bcn
            have hb_mo_n := smo15.bn
            have hb_mo_mn := smo15.bmn
            refine q_aload_n (by first | assumption | omega | decide | (rw [q_R0e]; omega)) dX11_command_177 rfl ?_
            refine q_getf (k := 18) (v := .ref (222)) kC_X11 kL_X11_37 rfl (by decide) dX11_command_178 smo15.c0 rfl ?_
            refine q_iload_n dX11_command_181 rfl ?_
            refine q_iconst (v := 2) dX11_command_182 rfl ?_
            refine q_iaddN (a := 3 * cn) (b := 2) dX11_command_183 ?_
            change q_W _ _ _ _ _ _ _ _ _ _ [.int (nI (3 * cn + 2)), .ref (222)] _
            refine q_aload_n (by first | assumption | omega | decide | (rw [q_R0e]; omega)) dX11_command_184 rfl ?_
            refine q_bipush (v := 62) dX11_command_185 rfl ?_
            refine q_iconst (v := 2) dX11_command_187 rfl ?_
            rcases x16 : x_mo_behind ip ty y13_he y13_er 62 2 with ⟨v16, y16_he, y16_er⟩
            have e9 := e_mo_behind (g := g) (h := h15) (d := d - 1) smo15 62 2 (by first | assumption | decide) (by omega) (by omega)
            rw [x16] at e9
            refine q_invV (mc' := 0) (ms' := 0) (d' := d - 1) (as := [.int (62), .int (2)]) dX11_command_188 kM_X11_behind kL_X11_263 kI_X11_behind kS_X11_behind rfl (kC_X11.1) smo15.c0 rfl rfl (Nat.le_of_ble_eq_true rfl) (by omega) (by decide) (by omega) (by omega) (e9) (q_kC (fun h17 hB => ?_)) q_xC
            obtain ⟨t17_0, pp17⟩ := hB
            have smo17 := t17_0
            have p17 := p15.trans (pp17.wide (by omega) (by omega))
            have hb_mo_cg := smo17.bcg
            have hb_mo_lz := smo17.blz
            have hb_mo_ty := smo17.bty
            have hb_mo_he : y16_he ≤ 60 := smo17.bhe
            have hb_mo_cn := smo17.bcn
            have hb_mo_n := smo17.bn
            have hb_mo_mn := smo17.bmn
            change q_W _ _ _ _ _ _ _ _ 191 [.ref (215), .int (nI (3 * cn)), .int (x_mo_sign ip ty he), .int (v7)] [.int (v16), .int (nI (3 * cn + 2)), .ref (222)] _
            refine q_iastN (j := 3 * cn + 2) dX11_command_191 smo17.c7 (by omega) (by decide) ?_
            refine z_genW (B := fun H => z_Mo H 215 th al cg sv rs ac rj ro ad bf ln lz ip ty y16_he y16_er ea fa (upd (upd (upd a3_0 (3 * cn) (v7)) (3 * cn + 1) (v13)) (3 * cn + 2) (v16)) (cn + 1) n mn ∧ q_same h H 215 8) ⟨z_Mo.put7 smo17, p17.trans (q_same.set (by omega) (by omega))⟩ (fun h18 hB => ?_)
            obtain ⟨smo18, p18⟩ := hB
            have hb_mo_cg := smo18.bcg
            have hb_mo_lz := smo18.blz
            have hb_mo_ty := smo18.bty
            have hb_mo_he : y16_he ≤ 60 := smo18.bhe
            have hb_mo_cn := smo18.bcn
            have hb_mo_n := smo18.bn
            have hb_mo_mn := smo18.bmn
            refine q_goto 246 dX11_command_192 (by decide) ?_
            have hE : x_mo_command ip ty he er cm cn = (y16_he, y16_er, upd (upd (upd a3_0 (3 * cn) (v7)) (3 * cn + 1) (v13)) (3 * cn + 2) (v16), cn + 1) := by simp only [x_mo_command, x3, if_pos b48, x7, if_neg b84_97, if_neg b84_98, if_neg b84_101, if_pos b84_116, x13, x16]
            rw [hE]
            exact q_return dX11_command_246 rfl (by omega) (by omega) ⟨rfl, smo18, p18⟩
          · by_cases b84_119 : v7 = 119
            · refine q_lookup (off := 111) 195 dX11_command_84 (by decide) (by rw [b84_119]; decide) (by decide) ?_
              refine q_aload_n (by first | assumption | omega | decide | (rw [q_R0e]; omega)) dX11_command_195 rfl ?_
              refine q_getf (k := 18) (v := .ref (222)) kC_X11 kL_X11_37 rfl (by decide) dX11_command_196 smo9.c0 rfl ?_
              refine q_iload_n dX11_command_199 rfl ?_
              refine q_iconst (v := 1) dX11_command_200 rfl ?_
              refine q_iaddN (a := 3 * cn) (b := 1) dX11_command_201 ?_
              change q_W _ _ _ _ _ _ _ _ _ _ [.int (nI (3 * cn + 1)), .ref (222)] _
              refine q_aload_n (by first | assumption | omega | decide | (rw [q_R0e]; omega)) dX11_command_202 rfl ?_
              refine q_bipush (v := 32) dX11_command_203 rfl ?_
              refine q_iconst (v := 2) dX11_command_205 rfl ?_
              rcases x19 : x_mo_behind ip ty y7_he y7_er 32 2 with ⟨v19, y19_he, y19_er⟩
              have e9 := e_mo_behind (g := g) (h := h9) (d := d - 1) smo9 32 2 (by first | assumption | decide) (by omega) (by omega)
              rw [x19] at e9
              refine q_invV (mc' := 0) (ms' := 0) (d' := d - 1) (as := [.int (32), .int (2)]) dX11_command_206 kM_X11_behind kL_X11_263 kI_X11_behind kS_X11_behind rfl (kC_X11.1) smo9.c0 rfl rfl (Nat.le_of_ble_eq_true rfl) (by omega) (by decide) (by omega) (by omega) (e9) (q_kC (fun h20 hB => ?_)) q_xC
              obtain ⟨t20_0, pp20⟩ := hB
              have smo20 := t20_0
              have p20 := p9.trans (pp20.wide (by omega) (by omega))
              have hb_mo_cg := smo20.bcg
              have hb_mo_lz := smo20.blz
              have hb_mo_ty := smo20.bty
              have hb_mo_he : y19_he ≤ 60 := smo20.bhe
              have hb_mo_cn := smo20.bcn
              have hb_mo_n := smo20.bn
              have hb_mo_mn := smo20.bmn
              change q_W _ _ _ _ _ _ _ _ 209 [.ref (215), .int (nI (3 * cn)), .int (x_mo_sign ip ty he), .int (v7)] [.int (v19), .int (nI (3 * cn + 1)), .ref (222)] _
              refine q_iastN (j := 3 * cn + 1) dX11_command_209 smo20.c7 (by omega) (by decide) ?_
              refine z_genW (B := fun H => z_Mo H 215 th al cg sv rs ac rj ro ad bf ln lz ip ty y19_he y19_er ea fa (upd (upd a3_0 (3 * cn) (v7)) (3 * cn + 1) (v19)) (cn + 1) n mn ∧ q_same h H 215 8) ⟨z_Mo.put7 smo20, p20.trans (q_same.set (by omega) (by omega))⟩ (fun h21 hB => ?_)
              obtain ⟨smo21, p21⟩ := hB
              have hb_mo_cg := smo21.bcg
              have hb_mo_lz := smo21.blz
              have hb_mo_ty := smo21.bty
              have hb_mo_he : y19_he ≤ 60 := smo21.bhe
              have hb_mo_cn := smo21.bcn
              have hb_mo_n := smo21.bn
              have hb_mo_mn := smo21.bmn
              refine q_aload_n (by first | assumption | omega | decide | (rw [q_R0e]; omega)) dX11_command_210 rfl ?_
              refine q_getf (k := 18) (v := .ref (222)) kC_X11 kL_X11_37 rfl (by decide) dX11_command_211 smo21.c0 rfl ?_
              refine q_iload_n dX11_command_214 rfl ?_
              refine q_iconst (v := 2) dX11_command_215 rfl ?_
              refine q_iaddN (a := 3 * cn) (b := 2) dX11_command_216 ?_
              change q_W _ _ _ _ _ _ _ _ _ _ [.int (nI (3 * cn + 2)), .ref (222)] _
              refine q_aload_n (by first | assumption | omega | decide | (rw [q_R0e]; omega)) dX11_command_217 rfl ?_
              refine q_bipush (v := 32) dX11_command_218 rfl ?_
              refine q_iconst (v := 1) dX11_command_220 rfl ?_
              rcases x22 : x_mo_behind ip ty y19_he y19_er 32 1 with ⟨v22, y22_he, y22_er⟩
              have e9 := e_mo_behind (g := g) (h := h21) (d := d - 1) smo21 32 1 (by first | assumption | decide) (by omega) (by omega)
              rw [x22] at e9
              refine q_invV (mc' := 0) (ms' := 0) (d' := d - 1) (as := [.int (32), .int (1)]) dX11_command_221 kM_X11_behind kL_X11_263 kI_X11_behind kS_X11_behind rfl (kC_X11.1) smo21.c0 rfl rfl (Nat.le_of_ble_eq_true rfl) (by omega) (by decide) (by omega) (by omega) (e9) (q_kC (fun h23 hB => ?_)) q_xC
              obtain ⟨t23_0, pp23⟩ := hB
              have smo23 := t23_0
              have p23 := p21.trans (pp23.wide (by omega) (by omega))
              have hb_mo_cg := smo23.bcg
              have hb_mo_lz := smo23.blz
              have hb_mo_ty := smo23.bty
              have hb_mo_he : y22_he ≤ 60 := smo23.bhe
              have hb_mo_cn := smo23.bcn
              have hb_mo_n := smo23.bn
              have hb_mo_mn := smo23.bmn
              change q_W _ _ _ _ _ _ _ _ 224 [.ref (215), .int (nI (3 * cn)), .int (x_mo_sign ip ty he), .int (v7)] [.int (v22), .int (nI (3 * cn + 2)), .ref (222)] _
              refine q_iastN (j := 3 * cn + 2) dX11_command_224 smo23.c7 (by omega) (by decide) ?_
              refine z_genW (B := fun H => z_Mo H 215 th al cg sv rs ac rj ro ad bf ln lz ip ty y22_he y22_er ea fa (upd (upd (upd a3_0 (3 * cn) (v7)) (3 * cn + 1) (v19)) (3 * cn + 2) (v22)) (cn + 1) n mn ∧ q_same h H 215 8) ⟨z_Mo.put7 smo23, p23.trans (q_same.set (by omega) (by omega))⟩ (fun h24 hB => ?_)
              obtain ⟨smo24, p24⟩ := hB
              have hb_mo_cg := smo24.bcg
              have hb_mo_lz := smo24.blz
              have hb_mo_ty := smo24.bty
              have hb_mo_he : y22_he ≤ 60 := smo24.bhe
              have hb_mo_cn := smo24.bcn
              have hb_mo_n := smo24.bn
              have hb_mo_mn := smo24.bmn
              refine q_goto 246 dX11_command_225 (by decide) ?_
              have hE : x_mo_command ip ty he er cm cn = (y22_he, y22_er, upd (upd (upd a3_0 (3 * cn) (v7)) (3 * cn + 1) (v19)) (3 * cn + 2) (v22), cn + 1) := by simp only [x_mo_command, x3, if_pos b48, x7, if_neg b84_97, if_neg b84_98, if_neg b84_101, if_neg b84_116, if_pos b84_119, x19, x22]
              rw [hE]
              exact q_return dX11_command_246 rfl (by omega) (by omega) ⟨rfl, smo24, p24⟩
            · by_cases b84_121 : v7 = 121
              · refine q_lookup (off := 78) 162 dX11_command_84 (by decide) (by rw [b84_121]; decide) (by decide) ?_
                refine q_aload_n (by first | assumption | omega | decide | (rw [q_R0e]; omega)) dX11_command_162 rfl ?_
                refine q_getf (k := 18) (v := .ref (222)) kC_X11 kL_X11_37 rfl (by decide) dX11_command_163 smo9.c0 rfl ?_
                refine q_iload_n dX11_command_166 rfl ?_
                refine q_iconst (v := 1) dX11_command_167 rfl ?_
                refine q_iaddN (a := 3 * cn) (b := 1) dX11_command_168 ?_
                change q_W _ _ _ _ _ _ _ _ _ _ [.int (nI (3 * cn + 1)), .ref (222)] _
                refine q_aload_n (by first | assumption | omega | decide | (rw [q_R0e]; omega)) dX11_command_169 rfl ?_
                refine q_bipush (v := 32) dX11_command_170 rfl ?_
                refine q_iconst (v := 2) dX11_command_172 rfl ?_
                rcases x25 : x_mo_behind ip ty y7_he y7_er 32 2 with ⟨v25, y25_he, y25_er⟩
                have e9 := e_mo_behind (g := g) (h := h9) (d := d - 1) smo9 32 2 (by first | assumption | decide) (by omega) (by omega)
                rw [x25] at e9
                refine q_invV (mc' := 0) (ms' := 0) (d' := d - 1) (as := [.int (32), .int (2)]) dX11_command_173 kM_X11_behind kL_X11_263 kI_X11_behind kS_X11_behind rfl (kC_X11.1) smo9.c0 rfl rfl (Nat.le_of_ble_eq_true rfl) (by omega) (by decide) (by omega) (by omega) (e9) (q_kC (fun h26 hB => ?_)) q_xC
                obtain ⟨t26_0, pp26⟩ := hB
                have smo26 := t26_0
                have p26 := p9.trans (pp26.wide (by omega) (by omega))
                have hb_mo_cg := smo26.bcg
                have hb_mo_lz := smo26.blz
                have hb_mo_ty := smo26.bty
                have hb_mo_he : y25_he ≤ 60 := smo26.bhe
                have hb_mo_cn := smo26.bcn
                have hb_mo_n := smo26.bn
                have hb_mo_mn := smo26.bmn
                change q_W _ _ _ _ _ _ _ _ 176 [.ref (215), .int (nI (3 * cn)), .int (x_mo_sign ip ty he), .int (v7)] [.int (v25), .int (nI (3 * cn + 1)), .ref (222)] _
                refine q_iastN (j := 3 * cn + 1) dX11_command_176 smo26.c7 (by omega) (by decide) ?_
                refine z_genW (B := fun H => z_Mo H 215 th al cg sv rs ac rj ro ad bf ln lz ip ty y25_he y25_er ea fa (upd (upd a3_0 (3 * cn) (v7)) (3 * cn + 1) (v25)) (cn + 1) n mn ∧ q_same h H 215 8) ⟨z_Mo.put7 smo26, p26.trans (q_same.set (by omega) (by omega))⟩ (fun h27 hB => ?_)
                obtain ⟨smo27, p27⟩ := hB
                have hb_mo_cg := smo27.bcg
                have hb_mo_lz := smo27.blz
                have hb_mo_ty := smo27.bty
                have hb_mo_he : y25_he ≤ 60 := smo27.bhe
                have hb_mo_cn := smo27.bcn
                have hb_mo_n := smo27.bn
                have hb_mo_mn := smo27.bmn
                refine q_aload_n (by first | assumption | omega | decide | (rw [q_R0e]; omega)) dX11_command_177 rfl ?_
                refine q_getf (k := 18) (v := .ref (222)) kC_X11 kL_X11_37 rfl (by decide) dX11_command_178 smo27.c0 rfl ?_
                refine q_iload_n dX11_command_181 rfl ?_
                refine q_iconst (v := 2) dX11_command_182 rfl ?_
                refine q_iaddN (a := 3 * cn) (b := 2) dX11_command_183 ?_
                change q_W _ _ _ _ _ _ _ _ _ _ [.int (nI (3 * cn + 2)), .ref (222)] _
                refine q_aload_n (by first | assumption | omega | decide | (rw [q_R0e]; omega)) dX11_command_184 rfl ?_
                refine q_bipush (v := 62) dX11_command_185 rfl ?_
                refine q_iconst (v := 2) dX11_command_187 rfl ?_
                rcases x28 : x_mo_behind ip ty y25_he y25_er 62 2 with ⟨v28, y28_he, y28_er⟩
                have e9 := e_mo_behind (g := g) (h := h27) (d := d - 1) smo27 62 2 (by first | assumption | decide) (by omega) (by omega)
                rw [x28] at e9
                refine q_invV (mc' := 0) (ms' := 0) (d' := d - 1) (as := [.int (62), .int (2)]) dX11_command_188 kM_X11_behind kL_X11_263 kI_X11_behind kS_X11_behind rfl (kC_X11.1) smo27.c0 rfl rfl (Nat.le_of_ble_eq_true rfl) (by omega) (by decide) (by omega) (by omega) (e9) (q_kC (fun h29 hB => ?_)) q_xC
                obtain ⟨t29_0, pp29⟩ := hB
                have smo29 := t29_0
                have p29 := p27.trans (pp29.wide (by omega) (by omega))
                have hb_mo_cg := smo29.bcg
                have hb_mo_lz := smo29.blz
                have hb_mo_ty := smo29.bty
                have hb_mo_he : y28_he ≤ 60 := smo29.bhe
                have hb_mo_cn := smo29.bcn
                have hb_mo_n := smo29.bn
                have hb_mo_mn := smo29.bmn
                change q_W _ _ _ _ _ _ _ _ 191 [.ref (215), .int (nI (3 * cn)), .int (x_mo_sign ip ty he), .int (v7)] [.int (v28), .int (nI (3 * cn + 2)), .ref (222)] _
                refine q_iastN (j := 3 * cn + 2) dX11_command_191 smo29.c7 (by omega) (by decide) ?_
                refine z_genW (B := fun H => z_Mo H 215 th al cg sv rs ac rj ro ad bf ln lz ip ty y28_he y28_er ea fa (upd (upd (upd a3_0 (3 * cn) (v7)) (3 * cn + 1) (v25)) (3 * cn + 2) (v28)) (cn + 1) n mn ∧ q_same h H 215 8) ⟨z_Mo.put7 smo29, p29.trans (q_same.set (by omega) (by omega))⟩ (fun h30 hB => ?_)
                obtain ⟨smo30, p30⟩ := hB
                have hb_mo_cg := smo30.bcg
                have hb_mo_lz := smo30.blz
                have hb_mo_ty := smo30.bty
                have hb_mo_he : y28_he ≤ 60 := smo30.bhe
                have hb_mo_cn := smo30.bcn
                have hb_mo_n := smo30.bn
                have hb_mo_mn := smo30.bmn
                refine q_goto 246 dX11_command_192 (by decide) ?_
                have hE : x_mo_command ip ty he er cm cn = (y28_he, y28_er, upd (upd (upd a3_0 (3 * cn) (v7)) (3 * cn + 1) (v25)) (3 * cn + 2) (v28), cn + 1) := by simp only [x_mo_command, x3, if_pos b48, x7, if_neg b84_97, if_neg b84_98, if_neg b84_101, if_neg b84_116, if_neg b84_119, if_pos b84_121, x25, x28]
                rw [hE]
                exact q_return dX11_command_246 rfl (by omega) (by omega) ⟨rfl, smo30, p30⟩
              · refine q_lookup (off := 147) 231 dX11_command_84 (by decide) (z_lookD _ [97, 98, 101, 116, 119, 121] (by intro c hc; simp only [List.mem_cons, List.not_mem_nil, or_false] at hc; rcases hc with rfl | rfl | rfl | rfl | rfl | rfl <;> assumption) (by decide)) (by decide) ?_
                refine q_aload_n (by first | assumption | omega | decide | (rw [q_R0e]; omega)) dX11_command_231 rfl ?_
                refine q_getf (k := 18) (v := .ref (222)) kC_X11 kL_X11_37 rfl (by decide) dX11_command_232 smo9.c0 rfl ?_
                refine q_iload_n dX11_command_235 rfl ?_
                refine q_iconst (v := 1) dX11_command_236 rfl ?_
                refine q_iaddN (a := 3 * cn) (b := 1) dX11_command_237 ?_
                change q_W _ _ _ _ _ _ _ _ _ _ [.int (nI (3 * cn + 1)), .ref (222)] _
                refine q_aload_n (by first | assumption | omega | decide | (rw [q_R0e]; omega)) dX11_command_238 rfl ?_
                refine q_bipush (v := 32) dX11_command_239 rfl ?_
                refine q_iconst (v := 2) dX11_command_241 rfl ?_
                rcases x31 : x_mo_behind ip ty y7_he y7_er 32 2 with ⟨v31, y31_he, y31_er⟩
                have e9 := e_mo_behind (g := g) (h := h9) (d := d - 1) smo9 32 2 (by first | assumption | decide) (by omega) (by omega)
                rw [x31] at e9
                refine q_invV (mc' := 0) (ms' := 0) (d' := d - 1) (as := [.int (32), .int (2)]) dX11_command_242 kM_X11_behind kL_X11_263 kI_X11_behind kS_X11_behind rfl (kC_X11.1) smo9.c0 rfl rfl (Nat.le_of_ble_eq_true rfl) (by omega) (by decide) (by omega) (by omega) (e9) (q_kC (fun h32 hB => ?_)) q_xC
                obtain ⟨t32_0, pp32⟩ := hB
                have smo32 := t32_0
                have p32 := p9.trans (pp32.wide (by omega) (by omega))
                have hb_mo_cg := smo32.bcg
                have hb_mo_lz := smo32.blz
                have hb_mo_ty := smo32.bty
                have hb_mo_he : y31_he ≤ 60 := smo32.bhe
                have hb_mo_cn := smo32.bcn
                have hb_mo_n := smo32.bn
                have hb_mo_mn := smo32.bmn
                change q_W _ _ _ _ _ _ _ _ 245 [.ref (215), .int (nI (3 * cn)), .int (x_mo_sign ip ty he), .int (v7)] [.int (v31), .int (nI (3 * cn + 1)), .ref (222)] _
                refine q_iastN (j := 3 * cn + 1) dX11_command_245 smo32.c7 (by omega) (by decide) ?_
                refine z_genW (B := fun H => z_Mo H 215 th al cg sv rs ac rj ro ad bf ln lz ip ty y31_he y31_er ea fa (upd (upd a3_0 (3 * cn) (v7)) (3 * cn + 1) (v31)) (cn + 1) n mn ∧ q_same h H 215 8) ⟨z_Mo.put7 smo32, p32.trans (q_same.set (by omega) (by omega))⟩ (fun h33 hB => ?_)
                obtain ⟨smo33, p33⟩ := hB
                have hb_mo_cg := smo33.bcg
                have hb_mo_lz := smo33.blz
                have hb_mo_ty := smo33.bty
                have hb_mo_he : y31_he ≤ 60 := smo33.bhe
                have hb_mo_cn := smo33.bcn
                have hb_mo_n := smo33.bn
                have hb_mo_mn := smo33.bmn
                have hE : x_mo_command ip ty he er cm cn = (y31_he, y31_er, upd (upd a3_0 (3 * cn) (v7)) (3 * cn + 1) (v31), cn + 1) := by simp only [x_mo_command, x3, if_pos b48, x7, if_neg b84_97, if_neg b84_98, if_neg b84_101, if_neg b84_116, if_neg b84_119, if_neg b84_121, x31]
                rw [hE]
                exact q_return dX11_command_246 rfl (by omega) (by omega) ⟨rfl, smo33, p33⟩
  · have b48 := z_b0n b48
    refine q_aload_n (by first | assumption | omega | decide | (rw [q_R0e]; omega)) dX11_command_51 rfl ?_
    refine q_aload_n (by first | assumption | omega | decide | (rw [q_R0e]; omega)) dX11_command_52 rfl ?_
    refine q_getf (k := 14) (v := .int (nI (he))) kC_X11 kL_X11_235 rfl (by decide) dX11_command_53 smo4.c0 rfl ?_
    refine q_putf (k := 15) kC_X11 kL_X11_238 rfl (by decide) rfl dX11_command_56 smo4.c0 (Nat.le_of_ble_eq_true rfl) ⟨rfl, rfl⟩ rfl ?_
    refine z_genW (B := fun H => z_Mo H 215 th al cg sv rs ac rj ro ad bf ln lz ip ty he (nI (he)) ea fa a3_0 (cn + 1) n mn ∧ q_same h H 215 8) ⟨z_Mo.put0 smo4 (cg' := cg) (sv' := sv) (lz' := lz) (ty' := ty) (he' := he) (cn' := cn + 1) (hbcg := by first | omega | (split <;> omega)) (hblz := by first | omega | (split <;> omega)) (hbty := by first | omega | (split <;> omega)) (hbhe := by first | omega | (split <;> omega)) (hbcn := by first | omega | (split <;> omega)), p4.trans (q_same.set (by omega) (by omega))⟩ (fun h34 hB => ?_)
    obtain ⟨smo34, p34⟩ := hB
    have hb_mo_cg := smo34.bcg
    have hb_mo_lz := smo34.blz
    have hb_mo_ty := smo34.bty
    have hb_mo_he := smo34.bhe
    have hb_mo_cn := smo34.bcn
    have hb_mo_n := smo34.bn
    have hb_mo_mn := smo34.bmn
    have hE : x_mo_command ip ty he er cm cn = (he, nI (he), a3_0, cn + 1) := by simp only [x_mo_command, x3, if_neg b48]
    rw [hE]
    exact q_return dX11_command_59 rfl (by omega) (by omega) ⟨rfl, smo34, p34⟩