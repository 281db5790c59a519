def x_mo_sign (ip : Nat → Int32) (ty : Nat) (he : Nat) : Int32 := (if ty ≤ he then -1 else ip he)
set_option maxRecDepth 100000 in
set_option maxHeartbeats 8000000 in
theorem e_mo_sign {g : q_G} {h : q_H} {d : Nat} {th : Int32} {al : Nat → Int32} {cg : Nat} {sv : Bool} {rs : Int32} {ac : Int32} {rj : Int32} {ro : Nat → Int32} {ad : Nat → Int32} {bf : Nat → Int32} {ln : Nat → Int32} {lz : Nat} {ip : Nat → Int32} {ty : Nat} {he : Nat} {er : Int32} {ea : Int32} {fa : Int32} {cm : Nat → Int32} {cn : Nat} {n : Nat} {mn : Nat} (smo : z_Mo h 215 th al cg sv rs ac rj ro ad bf ln lz ip ty he er ea fa cm cn n mn)     (hd : 0 ≤ d) : q_Spec g mX11_sign d 0 0 [.ref (215)] h (q_ret ((some (.int (x_mo_sign ip ty he)))) h) := by
  have hb_mo_cg := smo.bcg
  have hb_mo_lz := smo.blz
  have hb_mo_ty := smo.bty
  have hb_mo_he := smo.bhe
  have hb_mo_cn := smo.bcn
  have hb_mo_n := smo.bn
  have hb_mo_mn := smo.bmn
  have ho_mo_cg := smo.bcg
  have ho_mo_lz := smo.blz
  have ho_mo_ty := smo.bty
  have ho_mo_he := smo.bhe
  have ho_mo_cn := smo.bcn
  have ho_mo_n := smo.bn
  have ho_mo_mn := smo.bmn
  refine q_enter (by decide +kernel) rfl rfl (Nat.le_of_ble_eq_true rfl) (fun hz => ?_)
  change q_W _ _ _ _ _ _ _ _ _ [.ref (215)] [] _
  refine q_aload_n (by first | assumption | omega | decide | (rw [q_R0e]; omega)) dX11_sign_0 rfl ?_
  refine q_getf (k := 14) (v := .int (nI (he))) kC_X11 kL_X11_235 rfl (by decide) dX11_sign_1 smo.c0 rfl ?_
  refine q_aload_n (by first | assumption | omega | decide | (rw [q_R0e]; omega)) dX11_sign_4 rfl ?_
  refine q_getf (k := 13) (v := .int (nI (ty))) kC_X11 kL_X11_232 rfl (by decide) dX11_sign_5 smo.c0 rfl ?_
  refine q_icmp_ge 23 dX11_sign_8 (by decide) (fun b8 => ?_) (fun b8 => ?_)
  · have b8 := (nI_leI (a := ty) (b := he) (by omega) (by omega)).mp b8
    refine q_iconst (v := -1) dX11_sign_23 rfl ?_
    have hE : x_mo_sign ip ty he = -1 := by simp only [x_mo_sign, if_pos b8]
    rw [hE]
    exact q_ireturn dX11_sign_24 rfl rfl (by omega) (by omega) ⟨rfl, rfl⟩
  · have b8 : ¬ (ty ≤ he) := fun q => b8 ((nI_leI (a := ty) (b := he) (by omega) (by omega)).mpr q)
    refine q_aload_n (by first | assumption | omega | decide | (rw [q_R0e]; omega)) dX11_sign_11 rfl ?_
    refine q_getf (k := 12) (v := .ref (221)) kC_X11 kL_X11_27 rfl (by decide) dX11_sign_12 smo.c0 rfl ?_
    refine q_aload_n (by first | assumption | omega | decide | (rw [q_R0e]; omega)) dX11_sign_15 rfl ?_
    refine q_getf (k := 14) (v := .int (nI (he))) kC_X11 kL_X11_235 rfl (by decide) dX11_sign_16 smo.c0 rfl ?_
    refine q_caldN (j := he) (f := ip) dX11_sign_19 smo.c6 (by omega) (by decide) ?_
    change q_W _ _ _ _ _ _ _ _ _ _ [.int (ip he)] _
    refine q_goto 24 dX11_sign_20 (by decide) ?_
    have hE : x_mo_sign ip ty he = ip he := by simp only [x_mo_sign, if_neg b8]
    rw [hE]
    exact q_ireturn dX11_sign_24 rfl rfl (by omega) (by omega) ⟨rfl, rfl⟩
theorem z_sgn {ip : Nat → Int32} {ty he : Nat} {x : Int32} (h : x_mo_sign ip ty he = x) (hx : x ≠ -1) : he < ty := by
  unfold x_mo_sign at h
  split at h
  · exact absurd h.symm hx
  · omega
theorem z_sgd {ip : Nat → Int32} {ty he : Nat} (h : x_mo_in (x_mo_sign ip ty he) 48 57 = true) : he < ty := by
  unfold x_mo_sign at h
  split at h
  · exact absurd h (by decide)
  · omega
def x_mo_needs (ip : Nat → Int32) (ty : Nat) (he : Nat) (er : Int32) (xs : Int32) : (Nat) × (Int32) := (if (er) < (0) then (if (x_mo_sign ip ty he) = (xs) then (he + 1, er) else (he, nI (he))) else (he, er))
set_option maxRecDepth 100000 in
set_option maxHeartbeats 8000000 in
theorem e_mo_needs {g : q_G} {h : q_H} {d : Nat} {th : Int32} {al : Nat → Int32} {cg : Nat} {sv : Bool} {rs : Int32} {ac : Int32} {rj : Int32} {ro : Nat → Int32} {ad : Nat → Int32} {bf : Nat → Int32} {ln : Nat → Int32} {lz : Nat} {ip : Nat → Int32} {ty : Nat} {he : Nat} {er : Int32} {ea : Int32} {fa : Int32} {cm : Nat → Int32} {cn : Nat} {n : Nat} {mn : Nat} (smo : z_Mo h 215 th al cg sv rs ac rj ro ad bf ln lz ip ty he er ea fa cm cn n mn)  (xs : Int32) (hxn : xs ≠ -1)  (hd : 1 ≤ d) : q_Spec g mX11_needs d 0 0 [.ref (215), .int (xs)] h (q_chg (.inl none) (fun h1 => z_Mo h1 215 th al cg sv rs ac rj ro ad bf ln lz ip ty ((x_mo_needs ip ty he er xs).1) ((x_mo_needs ip ty he er xs).2) ea fa cm cn n mn ∧ q_same h h1 215 8)) := by
  have hb_mo_cg := smo.bcg
  have hb_mo_lz := smo.blz
  have hb_mo_ty := smo.bty
  have hb_mo_he := smo.bhe
  have hb_mo_cn := smo.bcn
  have hb_mo_n := smo.bn
  have hb_mo_mn := smo.bmn
  have ho_mo_cg := smo.bcg
  have ho_mo_lz := smo.blz
  have ho_mo_ty := smo.bty
  have ho_mo_he := smo.bhe
  have ho_mo_cn := smo.bcn
  have ho_mo_n := smo.bn
  have ho_mo_mn := smo.bmn
  have p0 : q_same h h 215 8 := q_same.rfl'
  refine q_enter (by decide +kernel) rfl rfl (Nat.le_of_ble_eq_true rfl) (fun hz => ?_)
  change q_W _ _ _ _ _ _ _ _ _ [.ref (215), .int (xs)] [] _
  refine q_aload_n (by first | assumption | omega | decide | (rw [q_R0e]; omega)) dX11_needs_0 rfl ?_
  refine q_getf (k := 15) (v := .int (er)) kC_X11 kL_X11_238 rfl (by decide) dX11_needs_1 smo.c0 rfl ?_
  refine q_if_lt 8 dX11_needs_4 (by decide) (fun b4 => ?_) (fun b4 => ?_)
  · refine q_aload_n (by first | assumption | omega | decide | (rw [q_R0e]; omega)) dX11_needs_8 rfl ?_
    refine q_invV (mc' := 0) (ms' := 0) (d' := d - 1) (as := []) dX11_needs_9 kM_X11_sign kL_X11_241 kI_X11_sign kS_X11_sign rfl (kC_X11.1) smo.c0 rfl rfl (Nat.le_of_ble_eq_true rfl) (by omega) (by decide) (by omega) (by omega) (e_mo_sign (d := d - 1) smo (by omega)) (q_kR ?_) q_xR
    change q_W _ _ _ _ _ _ _ _ 12 [.ref (215), .int (xs)] [.int (x_mo_sign ip ty he)] _
    refine q_iload_n dX11_needs_12 rfl ?_
    refine q_icmp_eq 25 dX11_needs_13 (by decide) (fun b13 => ?_) (fun b13 => ?_)
    · have f1 : he < ty := z_sgn b13 hxn
      refine q_aload_n (by first | assumption | omega | decide | (rw [q_R0e]; omega)) dX11_needs_25 rfl ?_
      refine q_dup dX11_needs_26 rfl ?_
      refine q_getf (k := 14) (v := .int (nI (he))) kC_X11 kL_X11_235 rfl (by decide) dX11_needs_27 smo.c0 rfl ?_
      refine q_iconst (v := 1) dX11_needs_30 rfl ?_
      refine q_iaddN (a := he) (b := 1) dX11_needs_31 ?_
      change q_W _ _ _ _ _ _ _ _ _ _ [.int (nI (he + 1)), .ref (215)] _
      refine q_putf (k := 14) kC_X11 kL_X11_235 rfl (by decide) rfl dX11_needs_32 smo.c0 (Nat.le_of_ble_eq_true rfl) ⟨rfl, rfl⟩ rfl ?_
      refine z_genW (B := fun H => z_Mo H 215 th al cg sv rs ac rj ro ad bf ln lz ip ty (he + 1) er ea fa cm cn n mn ∧ q_same h H 215 8) ⟨z_Mo.put0 smo (cg' := cg) (sv' := sv) (lz' := lz) (ty' := ty) (he' := he + 1) (cn' := cn) (hbcg := by first | omega | (split <;> omega)) (hblz := by first | omega | (split <;> omega)) (hbty := by first | omega | (split <;> omega)) (hbhe := by first | omega | (split <;> omega)) (hbcn := by first | omega | (split <;> omega)), p0.trans (q_same.set (by omega) (by omega))⟩ (fun h2 hB => ?_)
      obtain ⟨smo2, p2⟩ := hB
      have hb_mo_cg := smo2.bcg
      have hb_mo_lz := smo2.blz
      have hb_mo_ty := smo2.bty
      have hb_mo_he := smo2.bhe
      have hb_mo_cn := smo2.bcn
      have hb_mo_n := smo2.bn
      have hb_mo_mn := smo2.bmn
      have hE : x_mo_needs ip ty he er xs = (he + 1, er) := by simp only [x_mo_needs, if_pos b4, if_pos b13]
      rw [hE]
      exact q_return dX11_needs_35 rfl (by omega) (by omega) ⟨rfl, smo2, p2⟩
    · refine q_aload_n (by first | assumption | omega | decide | (rw [q_R0e]; omega)) dX11_needs_16 rfl ?_
      refine q_aload_n (by first | assumption | omega | decide | (rw [q_R0e]; omega)) dX11_needs_17 rfl ?_
      refine q_getf (k := 14) (v := .int (nI (he))) kC_X11 kL_X11_235 rfl (by decide) dX11_needs_18 smo.c0 rfl ?_
      refine q_putf (k := 15) kC_X11 kL_X11_238 rfl (by decide) rfl dX11_needs_21 smo.c0 (Nat.le_of_ble_eq_true rfl) ⟨rfl, rfl⟩ rfl ?_
      refine z_genW (B := fun H => z_Mo H 215 th al cg sv rs ac rj ro ad bf ln lz ip ty he (nI (he)) ea fa cm cn n mn ∧ q_same h H 215 8) ⟨z_Mo.put0 smo (cg' := cg) (sv' := sv) (lz' := lz) (ty' := ty) (he' := he) (cn' := cn) (hbcg := by first | omega | (split <;> omega)) (hblz := by first | omega | (split <;> omega)) (hbty := by first | omega | (split <;> omega)) (hbhe := by first | omega | (split <;> omega)) (hbcn := by first | omega | (split <;> omega)), p0.trans (q_same.set (by omega) (by omega))⟩ (fun h3 hB => ?_)
      obtain ⟨smo3, p3⟩ := hB
      have hb_mo_cg := smo3.bcg
      have hb_mo_lz := smo3.blz
      have hb_mo_ty := smo3.bty
      have hb_mo_he := smo3.bhe
      have hb_mo_cn := smo3.bcn
      have hb_mo_n := smo3.bn
      have hb_mo_mn := smo3.bmn
      have hE : x_mo_needs ip ty he er xs = (he, nI (he)) := by simp only [x_mo_needs, if_pos b4, if_neg b13]
      rw [hE]
      exact q_return dX11_needs_24 rfl (by omega) (by omega) ⟨rfl, smo3, p3⟩
  · have hE : x_mo_needs ip ty he er xs = (he, er) := by simp only [x_mo_needs, if_neg b4]
    rw [hE]
    exact q_return dX11_needs_7 rfl (by omega) (by omega) ⟨rfl, smo, p0⟩
def x_mo_letters (ip : Nat → Int32) (ty : Nat) (he : Nat) (er : Int32) (xa : Int32) (xb : Int32) (xc : Int32) : (Nat) × (Int32) := (match x_mo_needs ip ty he er xa with | (y1_he, y1_er) => (match x_mo_needs ip ty y1_he y1_er xb with | (y3_he, y3_er) => (match x_mo_needs ip ty y3_he y3_er xc with | (y5_he, y5_er) => (y5_he, y5_er))))
set_option maxRecDepth 100000 in
set_option maxHeartbeats 8000000 in
theorem e_mo_letters {g : q_G} {h : q_H} {d : Nat} {th : Int32} {al : Nat → Int32} {cg : Nat} {sv : Bool} {rs : Int32} {ac : Int32} {rj : Int32} {ro : Nat → Int32} {ad : Nat → Int32} {bf : Nat → Int32} {ln : Nat → Int32} {lz : Nat} {ip : Nat → Int32} {ty : Nat} {he : Nat} {er : Int32} {ea : Int32} {fa : Int32} {cm : Nat → Int32} {cn : Nat} {n : Nat} {mn : Nat} (smo : z_Mo h 215 th al cg sv rs ac rj ro ad bf ln lz ip ty he er ea fa cm cn n mn)  (xa : Int32) (xb : Int32) (xc : Int32) (hxa : xa ≠ -1) (hxb : xb ≠ -1) (hxc : xc ≠ -1)  (hd : 2 ≤ d) : q_Spec g mX11_letters d 0 0 [.ref (215), .int (xa), .int (xb), .int (xc)] h (q_chg (.inl none) (fun h1 => z_Mo h1 215 th al cg sv rs ac rj ro ad bf ln lz ip ty ((x_mo_letters ip ty he er xa xb xc).1) ((x_mo_letters ip ty he er xa xb xc).2) ea fa cm cn n mn ∧ q_same h h1 215 8)) := by
  have hb_mo_cg := smo.bcg
  have hb_mo_lz := smo.blz
  have hb_mo_ty := smo.bty
  have hb_mo_he := smo.bhe
  have hb_mo_cn := smo.bcn
  have hb_mo_n := smo.bn
  have hb_mo_mn := smo.bmn
  have ho_mo_cg := smo.bcg
  have ho_mo_lz := smo.blz
  have ho_mo_ty := smo.bty
  have ho_mo_he := smo.bhe
  have ho_mo_cn := smo.bcn
  have ho_mo_n := smo.bn
  have ho_mo_mn := smo.bmn
  have p0 : q_same h h 215 8 := q_same.rfl'
  refine q_enter (by decide +kernel) rfl rfl (Nat.le_of_ble_eq_true rfl) (fun hz => ?_)
  change q_W _ _ _ _ _ _ _ _ _ [.ref (215), .int (xa), .int (xb), .int (xc)] [] _
  refine q_aload_n (by first | assumption | omega | decide | (rw [q_R0e]; omega)) dX11_letters_0 rfl ?_
  refine q_iload_n dX11_letters_1 rfl ?_
  rcases x1 : x_mo_needs ip ty he er xa with ⟨y1_he, y1_er⟩
  have e9 := e_mo_needs (g := g) (h := h) (d := d - 1) smo xa (by first | assumption | decide) (by omega)
  rw [x1] at e9
  refine q_invV (mc' := 0) (ms' := 0) (d' := d - 1) (as := [.int (xa)]) dX11_letters_2 kM_X11_needs kL_X11_244 kI_X11_needs kS_X11_needs rfl (kC_X11.1) smo.c0 rfl rfl (Nat.le_of_ble_eq_true rfl) (by omega) (by decide) (by omega) (by omega) (e9) (q_kC (fun h2 hB => ?_)) q_xC
  obtain ⟨t2_0, pp2⟩ := hB
  have smo2 := t2_0
  have p2 := p0.trans (pp2.wide (by omega) (by omega))
  have hb_mo_cg := smo2.bcg
  have hb_mo_lz := smo2.blz
  have hb_mo_ty := smo2.bty
  have hb_mo_he : y1_he ≤ 60 := smo2.bhe
  have hb_mo_cn := smo2.bcn
  have hb_mo_n := smo2.bn
  have hb_mo_mn := smo2.bmn
  change q_W _ _ _ _ _ _ _ _ 5 [.ref (215), .int (xa), .int (xb), .int (xc)] [] _
  refine q_aload_n (by first | assumption | omega | decide | (rw [q_R0e]; omega)) dX11_letters_5 rfl ?_
  refine q_iload_n dX11_letters_6 rfl ?_
  rcases x3 : x_mo_needs ip ty y1_he y1_er xb with ⟨y3_he, y3_er⟩
  have e9 := e_mo_needs (g := g) (h := h2) (d := d - 1) smo2 xb (by first | assumption | decide) (by omega)
  rw [x3] at e9
  refine q_invV (mc' := 0) (ms' := 0) (d' := d - 1) (as := [.int (xb)]) dX11_letters_7 kM_X11_needs kL_X11_244 kI_X11_needs kS_X11_needs rfl (kC_X11.1) smo2.c0 rfl rfl (Nat.le_of_ble_eq_true rfl) (by omega) (by decide) (by omega) (by omega) (e9) (q_kC (fun h4 hB => ?_)) q_xC
  obtain ⟨t4_0, pp4⟩ := hB
  have smo4 := t4_0
  have p4 := p2.trans (pp4.wide (by omega) (by omega))
  have hb_mo_cg := smo4.bcg
  have hb_mo_lz := smo4.blz
  have hb_mo_ty := smo4.bty
  have hb_mo_he : y3_he ≤ 60 := smo4.bhe
  have hb_mo_cn := smo4.bcn
  have hb_mo_n := smo4.bn
  have hb_mo_mn := smo4.bmn
  change q_W _ _ _ _ _ _ _ _ 10 [.ref (215), .int (xa), .int (xb), .int (xc)] [] _
  refine q_aload_n (by first | assumption | omega | decide | (rw [q_R0e]; omega)) dX11_letters_10 rfl ?_
  refine q_iload_n dX11_letters_11 rfl ?_
  rcases x5 : x_mo_needs ip ty y3_he y3_er xc with ⟨y5_he, y5_er⟩
  have e9 := e_mo_needs (g := g) (h := h4) (d := d - 1) smo4 xc (by first | assumption | decide) (by omega)
  rw [x5] at e9
  refine q_invV (mc' := 0) (ms' := 0) (d' := d - 1) (as := [.int (xc)]) dX11_letters_12 kM_X11_needs kL_X11_244 kI_X11_needs kS_X11_needs rfl (kC_X11.1) smo4.c0 rfl rfl (Nat.le_of_ble_eq_true rfl) (by omega) (by decide) (by omega) (by omega) (e9) (q_kC (fun h6 hB => ?_)) q_xC
  obtain ⟨t6_0, pp6⟩ := hB
  have smo6 := t6_0
  have p6 := p4.trans (pp6.wide (by omega) (by omega))
  have hb_mo_cg := smo6.bcg
  have hb_mo_lz := smo6.blz
  have hb_mo_ty := smo6.bty
  have hb_mo_he : y5_he ≤ 60 := smo6.bhe
  have hb_mo_cn := smo6.bcn
  have hb_mo_n := smo6.bn
  have hb_mo_mn := smo6.bmn
  change q_W _ _ _ _ _ _ _ _ 15 [.ref (215), .int (xa), .int (xb), .int (xc)] [] _
  have hE : x_mo_letters ip ty he er xa xb xc = (y5_he, y5_er) := by simp only [x_mo_letters, x1, x3, x5]
  rw [hE]
  exact q_return dX11_letters_15 rfl (by omega) (by omega) ⟨rfl, smo6, p6⟩
def x_mo_behind_43 (ip : Nat → Int32) (ty : Nat) : Nat → Nat → (Int32) → (Nat) → (Int32) × (Nat)
  | 0, _, c43_3, he_43 => (c43_3, he_43)
  | r + 1, k, c43_3, he_43 => (if x_mo_in (x_mo_sign ip ty he_43) 48 57 then x_mo_behind_43 ip ty r (k + 1) ((((10 : Int32) * c43_3) + (x_mo_sign ip ty he_43)) - (48 : Int32)) (he_43 + 1) else (c43_3, he_43))
set_option maxRecDepth 100000 in
set_option maxHeartbeats 8000000 in
theorem l_mo_behind_43 {g : q_G} {h : q_H} {d mc ms kc ks : Nat} {Q : q_O → q_H → Prop} {th : Int32} {al : Nat → Int32} {cg : Nat} {sv : Bool} {rs : Int32} {ac : Int32} {rj : Int32} {ro : Nat → Int32} {ad : Nat → Int32} {bf : Nat → Int32} {ln : Nat → Int32} {lz : Nat} {ip : Nat → Int32} {ty : Nat} {ea : Int32} {fa : Int32} {cm : Nat → Int32} {cn : Nat} {n : Nat} {mn : Nat} {mx : Nat} {y1_er : Int32}   (hmx : mx ≤ 60) (ho_mo_cg : cg ≤ 8) (ho_mo_lz : lz ≤ 160) (ho_mo_ty : ty ≤ 60) (ho_mo_cn : cn ≤ 61) (ho_mo_n : n ≤ 8) (ho_mo_mn : mn ≤ 12)  (hd : 1 ≤ d) (hkc : kc + 0 ≤ mc) (hks : ks + 0 ≤ ms) : ∀ (r k : Nat) (c43_3 : Int32) (he_43 : Nat) (hh : q_H) (smo_43 : z_Mo hh 215 th al cg sv rs ac rj ro ad bf ln lz ip ty he_43 y1_er ea fa cm cn n mn) (pH : q_same h hh 215 8) (hk_43 : k + r = mx) (K : ∀ (r43_0 : Int32) (r43_1 : Nat), x_mo_behind_43 ip ty r k c43_3 he_43 = (r43_0, r43_1) → ∀ h2, z_Mo h2 215 th al cg sv rs ac rj ro ad bf ln lz ip ty r43_1 y1_er ea fa cm cn n mn → q_same h h2 215 8 → q_W g mX11_behind d mc ms Q kc ks 92 [q_u, q_u, q_u, .int (r43_0), q_u] [] h2), q_W g mX11_behind d mc ms Q kc ks 43 [.ref (215), q_u, .int (nI (mx)), .int (c43_3), .int (nI (k))] [] hh := by
  intro r
  induction r with
  | zero =>
    intro k c43_3 he_43 hh smo_43 pH hk_43 K
    have hb_mo_cg := smo_43.bcg
    have hb_mo_lz := smo_43.blz
    have hb_mo_ty := smo_43.bty
    have hb_mo_he := smo_43.bhe
    have hb_mo_cn := smo_43.bcn
    have hb_mo_n := smo_43.bn
    have hb_mo_mn := smo_43.bmn
    refine q_iload dX11_behind_43 rfl ?_
    refine q_iload_n dX11_behind_45 rfl ?_
    refine q_icmp_ge 92 dX11_behind_46 (by decide) (fun b46 => ?_) (fun b46 => ?_)
    · have b46 := (nI_leI (a := mx) (b := k) (by omega) (by omega)).mp b46
      refine q_forget 0 ?_
      refine q_forget 2 ?_
      refine q_forget 4 ?_
      change q_W _ _ _ _ _ _ _ _ _ [q_u, q_u, q_u, .int (c43_3), q_u] [] _
      exact K c43_3 he_43 (by simp only [x_mo_behind_43]) hh smo_43 pH
    · have b46 : ¬ (mx ≤ k) := fun q => b46 ((nI_leI (a := mx) (b := k) (by omega) (by omega)).mpr q)
      exact absurd b46 (by omega)
  | succ r ih =>
    intro k c43_3 he_43 hh smo_43 pH hk_43 K
    have hb_mo_cg := smo_43.bcg
    have hb_mo_lz := smo_43.blz
    have hb_mo_ty := smo_43.bty
    have hb_mo_he := smo_43.bhe
    have hb_mo_cn := smo_43.bcn
    have hb_mo_n := smo_43.bn
    have hb_mo_mn := smo_43.bmn
    refine q_iload dX11_behind_43 rfl ?_
    refine q_iload_n dX11_behind_45 rfl ?_
    refine q_icmp_ge 92 dX11_behind_46 (by decide) (fun b46 => ?_) (fun b46 => ?_)
    · have b46 := (nI_leI (a := mx) (b := k) (by omega) (by omega)).mp b46
      exact absurd b46 (by omega)
    · have b46 : ¬ (mx ≤ k) := fun q => b46 ((nI_leI (a := mx) (b := k) (by omega) (by omega)).mpr q)
      refine q_aload_n (by first | assumption | omega | decide | (rw [q_R0e]; omega)) dX11_behind_49 rfl ?_
      refine q_invV (mc' := 0) (ms' := 0) (d' := d - 1) (as := []) dX11_behind_50 kM_X11_sign kL_X11_241 kI_X11_sign kS_X11_sign rfl (kC_X11.1) smo_43.c0 rfl rfl (Nat.le_of_ble_eq_true rfl) (by omega) (by decide) (by omega) (by omega) (e_mo_sign (d := d - 1) smo_43 (by omega)) (q_kR ?_) q_xR
      change q_W _ _ _ _ _ _ _ _ 53 [.ref (215), q_u, .int (nI (mx)), .int (c43_3), .int (nI (k))] [.int (x_mo_sign ip ty he_43)] _
      refine q_bipush (v := 48) dX11_behind_53 rfl ?_
      refine q_bipush (v := 57) dX11_behind_55 rfl ?_
      refine q_invS (mc' := 0) (ms' := 0) (d' := d - 1) (as := [.int (x_mo_sign ip ty he_43), .int (48), .int (57)]) dX11_behind_57 kM_X11_in kL_X11_109 kT_X11_in rfl rfl rfl (Nat.le_of_ble_eq_true rfl) (by omega) (by decide) (by omega) (by omega) (e_mo_in (d := d - 1) (x_mo_sign ip ty he_43) 48 57 (by omega)) (q_kR ?_) q_xR
      change q_W _ _ _ _ _ _ _ _ 60 [.ref (215), q_u, .int (nI (mx)), .int (c43_3), .int (nI (k))] [.int (z_b (x_mo_in (x_mo_sign ip ty he_43) 48 57))] _
      refine q_if_eq 92 dX11_behind_60 (by decide) (fun b60 => ?_) (fun b60 => ?_)
      · have b60 := z_b0n b60
        refine q_forget 0 ?_
        refine q_forget 2 ?_
        refine q_forget 4 ?_
        change q_W _ _ _ _ _ _ _ _ _ [q_u, q_u, q_u, .int (c43_3), q_u] [] _
        exact K c43_3 he_43 (by simp only [x_mo_behind_43, if_neg b60]) hh smo_43 pH
      · have b60 := z_b1 b60
        have f3 : he_43 < ty := z_sgd b60
        refine q_bipush (v := 10) dX11_behind_63 rfl ?_
        refine q_iload_n dX11_behind_65 rfl ?_
        refine q_imul dX11_behind_66 ?_
        refine q_aload_n (by first | assumption | omega | decide | (rw [q_R0e]; omega)) dX11_behind_67 rfl ?_
        refine q_invV (mc' := 0) (ms' := 0) (d' := d - 1) (as := []) dX11_behind_68 kM_X11_sign kL_X11_241 kI_X11_sign kS_X11_sign rfl (kC_X11.1) smo_43.c0 rfl rfl (Nat.le_of_ble_eq_true rfl) (by omega) (by decide) (by omega) (by omega) (e_mo_sign (d := d - 1) smo_43 (by omega)) (q_kR ?_) q_xR
        change q_W _ _ _ _ _ _ _ _ 71 [.ref (215), q_u, .int (nI (mx)), .int (c43_3), .int (nI (k))] [.int (x_mo_sign ip ty he_43), .int ((10 : Int32) * c43_3)] _
        refine q_iadd dX11_behind_71 ?_
        refine q_bipush (v := 48) dX11_behind_72 rfl ?_
        refine q_isub dX11_behind_74 ?_
        refine q_istore_n dX11_behind_75 (by decide) rfl ?_
        change q_W _ _ _ _ _ _ _ _ _ [.ref (215), q_u, .int (nI (mx)), .int ((((10 : Int32) * c43_3) + (x_mo_sign ip ty he_43)) - (48 : Int32)), .int (nI (k))] [] _
        refine q_aload_n (by first | assumption | omega | decide | (rw [q_R0e]; omega)) dX11_behind_76 rfl ?_
        refine q_dup dX11_behind_77 rfl ?_
        refine q_getf (k := 14) (v := .int (nI (he_43))) kC_X11 kL_X11_235 rfl (by decide) dX11_behind_78 smo_43.c0 rfl ?_
        refine q_iconst (v := 1) dX11_behind_81 rfl ?_
        refine q_iaddN (a := he_43) (b := 1) dX11_behind_82 ?_
        change q_W _ _ _ _ _ _ _ _ _ _ [.int (nI (he_43 + 1)), .ref (215)] _
        refine q_putf (k := 14) kC_X11 kL_X11_235 rfl (by decide) rfl dX11_behind_83 smo_43.c0 (Nat.le_of_ble_eq_true rfl) ⟨rfl, rfl⟩ rfl ?_
        refine z_genW (B := fun H => z_Mo H 215 th al cg sv rs ac rj ro ad bf ln lz ip ty (he_43 + 1) y1_er ea fa cm cn n mn ∧ q_same h H 215 8) ⟨z_Mo.put0 smo_43 (cg' := cg) (sv' := sv) (lz' := lz) (ty' := ty) (he' := he_43 + 1) (cn' := cn) (hbcg := by first | omega | (split <;> omega)) (hblz := by first | omega | (split <;> omega)) (hbty := by first | omega | (split <;> omega)) (hbhe := by first | omega | (split <;> omega)) (hbcn := by first | omega | (split <;> omega)), pH.trans (q_same.set (by omega) (by omega))⟩ (fun h4 hB => ?_)
        obtain ⟨smo4, p4⟩ := hB
        have hb_mo_cg := smo4.bcg
        have hb_mo_lz := smo4.blz
        have hb_mo_ty := smo4.bty
        have hb_mo_he := smo4.bhe
        have hb_mo_cn := smo4.bcn
        have hb_mo_n := smo4.bn
        have hb_mo_mn := smo4.bmn
        refine q_iinc (x := nI (k)) (v := nI (k + 1)) dX11_behind_86 rfl (nI_add _ 1) rfl ?_
        change q_W _ _ _ _ _ _ _ _ _ [.ref (215), q_u, .int (nI (mx)), .int ((((10 : Int32) * c43_3) + (x_mo_sign ip ty he_43)) - (48 : Int32)), .int (nI (k + 1))] [] _
        refine q_goto 43 dX11_behind_89 (by decide) ?_
        change q_W _ _ _ _ _ _ _ _ _ [.ref (215), q_u, .int (nI (mx)), .int ((((10 : Int32) * c43_3) + (x_mo_sign ip ty he_43)) - (48 : Int32)), .int (nI (k + 1))] [] _
        exact ih (k + 1) ((((10 : Int32) * c43_3) + (x_mo_sign ip ty he_43)) - (48 : Int32)) (he_43 + 1) h4 smo4 p4 (by omega) (fun r43_0 r43_1 e9 => K r43_0 r43_1 (by simp only [x_mo_behind_43, if_pos b60]; exact e9))
def x_mo_behind (ip : Nat → Int32) (ty : Nat) (he : Nat) (er : Int32) (xs : Int32) (mx : Nat) : (Int32) × (Nat) × (Int32) := (match x_mo_needs ip ty he er xs with | (y1_he, y1_er) => (if (y1_er) < (0) then (if x_mo_in (x_mo_sign ip ty y1_he) 48 57 then (match x_mo_behind_43 ip ty mx 0 0 y1_he with | (a5_0, a5_1) => (a5_0, a5_1, y1_er)) else (0, y1_he, nI (y1_he))) else (0, y1_he, y1_er)))
set_option maxRecDepth 100000 in
set_option maxHeartbeats 8000000 in
theorem e_mo_behind {g : q_G} {h : q_H} {d : Nat} {th : Int32} {al : Nat → Int32} {cg : Nat} {sv : Bool} {rs : Int32} {ac : Int32} {rj : Int32} {ro : Nat → Int32} {ad : Nat → Int32} {bf : Nat → Int32} {ln : Nat → Int32} {lz : Nat} {ip : Nat → Int32} {ty : Nat} {he : Nat} {er : Int32} {ea : Int32} {fa : Int32} {cm : Nat → Int32} {cn : Nat} {n : Nat} {mn : Nat} (smo : z_Mo h 215 th al cg sv rs ac rj ro ad bf ln lz ip ty he er ea fa cm cn n mn)  (xs : Int32) (mx : Nat) (hxn : xs ≠ -1) (hmx : mx ≤ 60)  (hd : 2 ≤ d) : q_Spec g mX11_behind d 0 0 [.ref (215), .int (xs), .int (nI (mx))] h (q_chg (.inl (some (.int (x_mo_behind ip ty he er xs mx).1))) (fun h1 => z_Mo h1 215 th al cg sv rs ac rj ro ad bf ln lz ip ty ((x_mo_behind ip ty he er xs mx).2.1) ((x_mo_behind ip ty he er xs mx).2.2) ea fa cm cn n mn ∧ q_same h h1 215 8)) := by
  have hb_mo_cg := smo.bcg
  have hb_mo_lz := smo.blz
  have hb_mo_ty := smo.bty
  have hb_mo_he := smo.bhe
  have hb_mo_cn := smo.bcn
  have hb_mo_n := smo.bn
  have hb_mo_mn := smo.bmn
  have ho_mo_cg := smo.bcg
  have ho_mo_lz := smo.blz
  have ho_mo_ty := smo.bty
  have ho_mo_he := smo.bhe
  have ho_mo_cn := smo.bcn
  have ho_mo_n := smo.bn
  have ho_mo_mn := smo.bmn
  have p0 : q_same h h 215 8 := q_same.rfl'
  refine q_enter (by decide +kernel) rfl rfl (Nat.le_of_ble_eq_true rfl) (fun hz => ?_)
  change q_W _ _ _ _ _ _ _ _ _ [.ref (215), .int (xs), .int (nI (mx)), q_u, q_u] [] _
  refine q_aload_n (by first | assumption | omega | decide | (rw [q_R0e]; omega)) dX11_behind_0 rfl ?_
  refine q_iload_n dX11_behind_1 rfl ?_
  rcases x1 : x_mo_needs ip ty he er xs with ⟨y1_he, y1_er⟩
  have e9 := e_mo_needs (g := g) (h := h) (d := d - 1) smo xs (by first | assumption | decide) (by omega)
  rw [x1] at e9
  refine q_invV (mc' := 0) (ms' := 0) (d' := d - 1) (as := [.int (xs)]) dX11_behind_2 kM_X11_needs kL_X11_244 kI_X11_needs kS_X11_needs rfl (kC_X11.1) smo.c0 rfl rfl (Nat.le_of_ble_eq_true rfl) (by omega) (by decide) (by omega) (by omega) (e9) (q_kC (fun h2 hB => ?_)) q_xC
  obtain ⟨t2_0, pp2⟩ := hB
  have smo2 := t2_0
  have p2 := p0.trans (pp2.wide (by omega) (by omega))
  have hb_mo_cg := smo2.bcg
  have hb_mo_lz := smo2.blz
  have hb_mo_ty := smo2.bty
  have hb_mo_he : y1_he ≤ 60 := smo2.bhe
  have hb_mo_cn := smo2.bcn
  have hb_mo_n := smo2.bn
  have hb_mo_mn := smo2.bmn
  change q_W _ _ _ _ _ _ _ _ 5 [.ref (215), .int (xs), .int (nI (mx)), q_u, q_u] [] _
  refine q_aload_n (by first | assumption | omega | decide | (rw [q_R0e]; omega)) dX11_behind_5 rfl ?_
  refine q_getf (k := 15) (v := .int (y1_er)) kC_X11 kL_X11_238 rfl (by decide) dX11_behind_6 smo2.c0 rfl ?_
  refine q_if_lt 14 dX11_behind_9 (by decide) (fun b9 => ?_) (fun b9 => ?_)
  · refine q_aload_n (by first | assumption | omega | decide | (rw [q_R0e]; omega)) dX11_behind_14 rfl ?_
    refine q_invV (mc' := 0) (ms' := 0) (d' := d - 1) (as := []) dX11_behind_15 kM_X11_sign kL_X11_241 kI_X11_sign kS_X11_sign rfl (kC_X11.1) smo2.c0 rfl rfl (Nat.le_of_ble_eq_true rfl) (by omega) (by decide) (by omega) (by omega) (e_mo_sign (d := d - 1) smo2 (by omega)) (q_kR ?_) q_xR
    change q_W _ _ _ _ _ _ _ _ 18 [.ref (215), .int (xs), .int (nI (mx)), q_u, q_u] [.int (x_mo_sign ip ty y1_he)] _
    refine q_bipush (v := 48) dX11_behind_18 rfl ?_
    refine q_bipush (v := 57) dX11_behind_20 rfl ?_
    refine q_invS (mc' := 0) (ms' := 0) (d' := d - 1) (as := [.int (x_mo_sign ip ty y1_he), .int (48), .int (57)]) dX11_behind_22 kM_X11_in kL_X11_109 kT_X11_in rfl rfl rfl (Nat.le_of_ble_eq_true rfl) (by omega) (by decide) (by omega) (by omega) (e_mo_in (d := d - 1) (x_mo_sign ip ty y1_he) 48 57 (by omega)) (q_kR ?_) q_xR
    change q_W _ _ _ _ _ _ _ _ 25 [.ref (215), .int (xs), .int (nI (mx)), q_u, q_u] [.int (z_b (x_mo_in (x_mo_sign ip ty y1_he) 48 57))] _
    refine q_if_ne 38 dX11_behind_25 (by decide) (fun b25 => ?_) (fun b25 => ?_)
    · have b25 := z_b1 b25
      refine q_iconst (v := 0) dX11_behind_38 rfl ?_
      refine q_istore_n dX11_behind_39 (by decide) rfl ?_
      change q_W _ _ _ _ _ _ _ _ _ [.ref (215), .int (xs), .int (nI (mx)), .int (0), q_u] [] _
      refine q_iconst (v := 0) dX11_behind_40 rfl ?_
      refine q_istore dX11_behind_41 (by decide) rfl ?_
      change q_W _ _ _ _ _ _ _ _ _ [.ref (215), .int (xs), .int (nI (mx)), .int (0), .int (0)] [] _
      refine q_forget 1 ?_
      change q_W _ _ _ _ _ _ _ _ _ [.ref (215), q_u, .int (nI (mx)), .int (0), .int (0)] [] _
      refine l_mo_behind_43 hmx ho_mo_cg ho_mo_lz ho_mo_ty ho_mo_cn ho_mo_n ho_mo_mn (by omega) (by omega) (by omega) mx 0 0 y1_he h2 smo2 p2 (by omega) (fun a5_0 a5_1 x5 h6 smo6 p6 => ?_)
      have hb_mo_cg := smo6.bcg
      have hb_mo_lz := smo6.blz
      have hb_mo_ty := smo6.bty
      have hb_mo_he := smo6.bhe
      have hb_mo_cn := smo6.bcn
      have hb_mo_n := smo6.bn
      have hb_mo_mn := smo6.bmn
      change q_W _ _ _ _ _ _ _ _ 92 [q_u, q_u, q_u, .int (a5_0), q_u] [] _
      refine q_iload_n dX11_behind_92 rfl ?_
      have hE : x_mo_behind ip ty he er xs mx = (a5_0, a5_1, y1_er) := by simp only [x_mo_behind, x1, if_pos b9, if_pos b25, x5]
      rw [hE]
      exact q_ireturn dX11_behind_93 rfl rfl (by omega) (by omega) ⟨rfl, smo6, p6⟩
    · have b25 := z_b0n b25
      refine q_aload_n (by first | assumption | omega | decide | (rw [q_R0e]; omega)) dX11_behind_28 rfl ?_
      refine q_aload_n (by first | assumption | omega | decide | (rw [q_R0e]; omega)) dX11_behind_29 rfl ?_
      refine q_getf (k := 14) (v := .int (nI (y1_he))) kC_X11 kL_X11_235 rfl (by decide) dX11_behind_30 smo2.c0 rfl ?_
      refine q_putf (k := 15) kC_X11 kL_X11_238 rfl (by decide) rfl dX11_behind_33 smo2.c0 (Nat.le_of_ble_eq_true rfl) ⟨rfl, rfl⟩ rfl ?_
      refine z_genW (B := fun H => z_Mo H 215 th al cg sv rs ac rj ro ad bf ln lz ip ty y1_he (nI (y1_he)) ea fa cm cn n mn ∧ q_same h H 215 8) ⟨z_Mo.put0 smo2 (cg' := cg) (sv' := sv) (lz' := lz) (ty' := ty) (he' := y1_he) (cn' := cn) (hbcg := by first | omega | (split <;> omega)) (hblz := by first | omega | (split <;> omega)) (hbty := by first | omega | (split <;> omega)) (hbhe := by first | omega | (split <;> omega)) (hbcn := by first | omega | (split <;> omega)), p2.trans (q_same.set (by omega) (by omega))⟩ (fun h7 hB => ?_)
      obtain ⟨smo7, p7⟩ := hB
      have hb_mo_cg := smo7.bcg
      have hb_mo_lz := smo7.blz
      have hb_mo_ty := smo7.bty
      have hb_mo_he : y1_he ≤ 60 := smo7.bhe
      have hb_mo_cn := smo7.bcn
      have hb_mo_n := smo7.bn
      have hb_mo_mn := smo7.bmn
      refine q_iconst (v := 0) dX11_behind_36 rfl ?_
      have hE : x_mo_behind ip ty he er xs mx = (0, y1_he, nI (y1_he)) := by simp only [x_mo_behind, x1, if_pos b9, if_neg b25]
      rw [hE]
      exact q_ireturn dX11_behind_37 rfl rfl (by omega) (by omega) ⟨rfl, smo7, p7⟩
  · refine q_iconst (v := 0) dX11_behind_12 rfl ?_
    have hE : x_mo_behind ip ty he er xs mx = (0, y1_he, y1_er) := by simp only [x_mo_behind, x1, if_neg b9]
    rw [hE]
    exact q_ireturn dX11_behind_13 rfl rfl (by omega) (by omega) ⟨rfl, smo2, p2⟩
def x_mo_again (ip : Nat → Int32) (ty : Nat) (he : Nat) (er : Int32) : (Int32) × (Nat) × (Int32) := (match x_mo_needs ip ty he er 101 with | (y1_he, y1_er) => (if (y1_er) < (0) then (if (x_mo_sign ip ty y1_he) = (110) then (match x_mo_letters ip ty y1_he y1_er 110 101 119 with | (y9_he, y9_er) => (110, y9_he, y9_er)) else (if (x_mo_sign ip ty y1_he) = (112) then (match x_mo_letters ip ty y1_he y1_er 112 108 121 with | (y7_he, y7_er) => (112, y7_he, y7_er)) else (match x_mo_letters ip ty y1_he y1_er 109 111 118 with | (y3_he, y3_er) => (match x_mo_needs ip ty y3_he y3_er 101 with | (y5_he, y5_er) => (109, y5_he, y5_er))))) else (109, y1_he, y1_er)))
set_option maxRecDepth 100000 in
set_option maxHeartbeats 8000000 in
theorem e_mo_again {g : q_G} {h : q_H} {d : Nat} {th : Int32} {al : Nat → Int32} {cg : Nat} {sv : Bool} {rs : Int32} {ac : Int32} {rj : Int32} {ro : Nat → Int32} {ad : Nat → Int32} {bf : Nat → Int32} {ln : Nat → Int32} {lz : Nat} {ip : Nat → Int32} {ty : Nat} {he : Nat} {er : Int32} {ea : Int32} {fa : Int32} {cm : Nat → Int32} {cn : Nat} {n : Nat} {mn : Nat} (smo : z_Mo h 215 th al cg sv rs ac rj ro ad bf ln lz ip ty he er ea fa cm cn n mn)     (hd : 3 ≤ d) : q_Spec g mX11_again d 0 0 [.ref (215)] h (q_chg (.inl (some (.int (x_mo_again ip ty he er).1))) (fun h1 => z_Mo h1 215 th al cg sv rs ac rj ro ad bf ln lz ip ty ((x_mo_again ip ty he er).2.1) ((x_mo_again ip ty he er).2.2) ea fa cm cn n mn ∧ q_same h h1 215 8)) := by
  have hb_mo_cg := smo.bcg
  have hb_mo_lz := smo.blz
  have hb_mo_ty := smo.bty
  have hb_mo_he := smo.bhe
  have hb_mo_cn := smo.bcn
  have hb_mo_n := smo.bn
  have hb_mo_mn := smo.bmn
  have ho_mo_cg := smo.bcg
  have ho_mo_lz := smo.blz
  have ho_mo_ty := smo.bty
  have ho_mo_he := smo.bhe
  have ho_mo_cn := smo.bcn
  have ho_mo_n := smo.bn
  have ho_mo_mn := smo.bmn
  have p0 : q_same h h 215 8 := q_same.rfl'
  refine q_enter (by decide +kernel) rfl rfl (Nat.le_of_ble_eq_true rfl) (fun hz => ?_)
  change q_W _ _ _ _ _ _ _ _ _ [.ref (215)] [] _
  refine q_aload_n (by first | assumption | omega | decide | (rw [q_R0e]; omega)) dX11_again_0 rfl ?_
  refine q_bipush (v := 101) dX11_again_1 rfl ?_
  rcases x1 : x_mo_needs ip ty he er 101 with ⟨y1_he, y1_er⟩
  have e9 := e_mo_needs (g := g) (h := h) (d := d - 1) smo 101 (by first | assumption | decide) (by omega)
  rw [x1] at e9
  refine q_invV (mc' := 0) (ms' := 0) (d' := d - 1) (as := [.int (101)]) dX11_again_3 kM_X11_needs kL_X11_244 kI_X11_needs kS_X11_needs rfl (kC_X11.1) smo.c0 rfl rfl (Nat.le_of_ble_eq_true rfl) (by omega) (by decide) (by omega) (by omega) (e9) (q_kC (fun h2 hB => ?_)) q_xC
  obtain ⟨t2_0, pp2⟩ := hB
  have smo2 := t2_0
  have p2 := p0.trans (pp2.wide (by omega) (by omega))
  have hb_mo_cg := smo2.bcg
  have hb_mo_lz := smo2.blz
  have hb_mo_ty := smo2.bty
  have hb_mo_he : y1_he ≤ 60 := smo2.bhe
  have hb_mo_cn := smo2.bcn
  have hb_mo_n := smo2.bn
  have hb_mo_mn := smo2.bmn
  change q_W _ _ _ _ _ _ _ _ 6 [.ref (215)] [] _
  refine q_aload_n (by first | assumption | omega | decide | (rw [q_R0e]; omega)) dX11_again_6 rfl ?_
  refine q_getf (k := 15) (v := .int (y1_er)) kC_X11 kL_X11_238 rfl (by decide) dX11_again_7 smo2.c0 rfl ?_
  refine q_if_lt 16 dX11_again_10 (by decide) (fun b10 => ?_) (fun b10 => ?_)
  · refine q_aload_n (by first | assumption | omega | decide | (rw [q_R0e]; omega)) dX11_again_16 rfl ?_
    refine q_invV (mc' := 0) (ms' := 0) (d' := d - 1) (as := []) dX11_again_17 kM_X11_sign kL_X11_241 kI_X11_sign kS_X11_sign rfl (kC_X11.1) smo2.c0 rfl rfl (Nat.le_of_ble_eq_true rfl) (by omega) (by decide) (by omega) (by omega) (e_mo_sign (d := d - 1) smo2 (by omega)) (q_kR ?_) q_xR
    change q_W _ _ _ _ _ _ _ _ 20 [.ref (215)] [.int (x_mo_sign ip ty y1_he)] _
    refine q_bipush (v := 110) dX11_again_20 rfl ?_
    refine q_icmp_ne 38 dX11_again_22 (by decide) (fun b22 => ?_) (fun b22 => ?_)
    · refine q_aload_n (by first | assumption | omega | decide | (rw [q_R0e]; omega)) dX11_again_38 rfl ?_
      refine q_invV (mc' := 0) (ms' := 0) (d' := d - 1) (as := []) dX11_again_39 kM_X11_sign kL_X11_241 kI_X11_sign kS_X11_sign rfl (kC_X11.1) smo2.c0 rfl rfl (Nat.le_of_ble_eq_true rfl) (by omega) (by decide) (by omega) (by omega) (e_mo_sign (d := d - 1) smo2 (by omega)) (q_kR ?_) q_xR
      change q_W _ _ _ _ _ _ _ _ 42 [.ref (215)] [.int (x_mo_sign ip ty y1_he)] _
      refine q_bipush (v := 112) dX11_again_42 rfl ?_
      refine q_icmp_ne 60 dX11_again_44 (by decide) (fun b44 => ?_) (fun b44 => ?_)
      · refine q_aload_n (by first | assumption | omega | decide | (rw [q_R0e]; omega)) dX11_again_60 rfl ?_
        refine q_bipush (v := 109) dX11_again_61 rfl ?_
        refine q_bipush (v := 111) dX11_again_63 rfl ?_
        refine q_bipush (v := 118) dX11_again_65 rfl ?_
        rcases x3 : x_mo_letters ip ty y1_he y1_er 109 111 118 with ⟨y3_he, y3_er⟩
        have e9 := e_mo_letters (g := g) (h := h2) (d := d - 1) smo2 109 111 118 (by first | assumption | decide) (by first | assumption | decide) (by first | assumption | decide) (by omega)
        rw [x3] at e9
        refine q_invV (mc' := 0) (ms' := 0) (d' := d - 1) (as := [.int (109), .int (111), .int (118)]) dX11_again_67 kM_X11_letters kL_X11_247 kI_X11_letters kS_X11_letters rfl (kC_X11.1) smo2.c0 rfl rfl (Nat.le_of_ble_eq_true rfl) (by omega) (by decide) (by omega) (by omega) (e9) (q_kC (fun h4 hB => ?_)) q_xC
        obtain ⟨t4_0, pp4⟩ := hB
        have smo4 := t4_0
        have p4 := p2.trans (pp4.wide (by omega) (by omega))
        have hb_mo_cg := smo4.bcg
        have hb_mo_lz := smo4.blz
        have hb_mo_ty := smo4.bty
        have hb_mo_he : y3_he ≤ 60 := smo4.bhe
        have hb_mo_cn := smo4.bcn
        have hb_mo_n := smo4.bn
        have hb_mo_mn := smo4.bmn
        change q_W _ _ _ _ _ _ _ _ 70 [.ref (215)] [] _
        refine q_aload_n (by first | assumption | omega | decide | (rw [q_R0e]; omega)) dX11_again_70 rfl ?_
        refine q_bipush (v := 101) dX11_again_71 rfl ?_
        rcases x5 : x_mo_needs ip ty y3_he y3_er 101 with ⟨y5_he, y5_er⟩
        have e9 := e_mo_needs (g := g) (h := h4) (d := d - 1) smo4 101 (by first | assumption | decide) (by omega)
        rw [x5] at e9
        refine q_invV (mc' := 0) (ms' := 0) (d' := d - 1) (as := [.int (101)]) dX11_again_73 kM_X11_needs kL_X11_244 kI_X11_needs kS_X11_needs rfl (kC_X11.1) smo4.c0 rfl rfl (Nat.le_of_ble_eq_true rfl) (by omega) (by decide) (by omega) (by omega) (e9) (q_kC (fun h6 hB => ?_)) q_xC
        obtain ⟨t6_0, pp6⟩ := hB
        have smo6 := t6_0
        have p6 := p4.trans (pp6.wide (by omega) (by omega))
        have hb_mo_cg := smo6.bcg
        have hb_mo_lz := smo6.blz
        have hb_mo_ty := smo6.bty
        have hb_mo_he : y5_he ≤ 60 := smo6.bhe
        have hb_mo_cn := smo6.bcn
        have hb_mo_n := smo6.bn
        have hb_mo_mn := smo6.bmn
        change q_W _ _ _ _ _ _ _ _ 76 [.ref (215)] [] _
        refine q_bipush (v := 109) dX11_again_76 rfl ?_
        have hE : x_mo_again ip ty he er = (109, y5_he, y5_er) := by simp only [x_mo_again, x1, if_pos b10, if_neg b22, if_neg b44, x3, x5]
        rw [hE]
        exact q_ireturn dX11_again_78 rfl rfl (by omega) (by omega) ⟨rfl, smo6, p6⟩
      · refine q_aload_n (by first | assumption | omega | decide | (rw [q_R0e]; omega)) dX11_again_47 rfl ?_
        refine q_bipush (v := 112) dX11_again_48 rfl ?_
        refine q_bipush (v := 108) dX11_again_50 rfl ?_
        refine q_bipush (v := 121) dX11_again_52 rfl ?_
        rcases x7 : x_mo_letters ip ty y1_he y1_er 112 108 121 with ⟨y7_he, y7_er⟩
        have e9 := e_mo_letters (g := g) (h := h2) (d := d - 1) smo2 112 108 121 (by first | assumption | decide) (by first | assumption | decide) (by first | assumption | decide) (by omega)
        rw [x7] at e9
        refine q_invV (mc' := 0) (ms' := 0) (d' := d - 1) (as := [.int (112), .int (108), .int (121)]) dX11_again_54 kM_X11_letters kL_X11_247 kI_X11_letters kS_X11_letters rfl (kC_X11.1) smo2.c0 rfl rfl (Nat.le_of_ble_eq_true rfl) (by omega) (by decide) (by omega) (by omega) (e9) (q_kC (fun h8 hB => ?_)) q_xC
        obtain ⟨t8_0, pp8⟩ := hB
        have smo8 := t8_0
        have p8 := p2.trans (pp8.wide (by omega) (by omega))
        have hb_mo_cg := smo8.bcg
        have hb_mo_lz := smo8.blz
        have hb_mo_ty := smo8.bty
        have hb_mo_he : y7_he ≤ 60 := smo8.bhe
        have hb_mo_cn := smo8.bcn
        have hb_mo_n := smo8.bn
        have hb_mo_mn := smo8.bmn
        change q_W _ _ _ _ _ _ _ _ 57 [.ref (215)] [] _
        refine q_bipush (v := 112) dX11_again_57 rfl ?_
        have hE : x_mo_again ip ty he er = (112, y7_he, y7_er) := by simp only [x_mo_again, x1, if_pos b10, if_neg b22, if_pos b44, x7]
        rw [hE]
        exact q_ireturn dX11_again_59 rfl rfl (by omega) (by omega) ⟨rfl, smo8, p8⟩
    · refine q_aload_n (by first | assumption | omega | decide | (rw [q_R0e]; omega)) dX11_again_25 rfl ?_
      refine q_bipush (v := 110) dX11_again_26 rfl ?_
      refine q_bipush (v := 101) dX11_again_28 rfl ?_
      refine q_bipush (v := 119) dX11_again_30 rfl ?_
      rcases x9 : x_mo_letters ip ty y1_he y1_er 110 101 119 with ⟨y9_he, y9_er⟩
      have e9 := e_mo_letters (g := g) (h := h2) (d := d - 1) smo2 110 101 119 (by first | assumption | decide) (by first | assumption | decide) (by first | assumption | decide) (by omega)
      rw [x9] at e9
      refine q_invV (mc' := 0) (ms' := 0) (d' := d - 1) (as := [.int (110), .int (101), .int (119)]) dX11_again_32 kM_X11_letters kL_X11_247 kI_X11_letters kS_X11_letters rfl (kC_X11.1) smo2.c0 rfl rfl (Nat.le_of_ble_eq_true rfl) (by omega) (by decide) (by omega) (by omega) (e9) (q_kC (fun h10 hB => ?_)) q_xC
      obtain ⟨t10_0, pp10⟩ := hB
      have smo10 := t10_0
      have p10 := p2.trans (pp10.wide (by omega) (by omega))
      have hb_mo_cg := smo10.bcg
      have hb_mo_lz := smo10.blz
      have hb_mo_ty := smo10.bty
      have hb_mo_he : y9_he ≤ 60 := smo10.bhe
      have hb_mo_cn := smo10.bcn
      have hb_mo_n := smo10.bn
      have hb_mo_mn := smo10.bmn
      change q_W _ _ _ _ _ _ _ _ 35 [.ref (215)] [] _
      refine q_bipush (v := 110) dX11_again_35 rfl ?_
      have hE : x_mo_again ip ty he er = (110, y9_he, y9_er) := by simp only [x_mo_again, x1, if_pos b10, if_pos b22, x9]
      rw [hE]
      exact q_ireturn dX11_again_37 rfl rfl (by omega) (by omega) ⟨rfl, smo10, p10⟩
  · refine q_bipush (v := 109) dX11_again_13 rfl ?_
    have hE : x_mo_again ip ty he er = (109, y1_he, y1_er) := by simp only [x_mo_again, x1, if_neg b10]
    rw [hE]
    exact q_ireturn dX11_again_15 rfl rfl (by omega) (by omega) ⟨rfl, smo2, p2⟩
def x_mo_isFirst (xs : Int32) : Bool := (if (xs) = (97) then true else (if (xs) = (114) then true else (if (xs) = (121) then true else (if (xs) = (119) then true else (if (xs) = (99) then true else (if (xs) = (98) then true else (if (xs) = (101) then true else (if (xs) = (100) then true else false))))))))
set_option maxRecDepth 100000 in
set_option maxHeartbeats 8000000 in
theorem e_mo_isFirst {g : q_G} {h : q_H} {d : Nat}   (xs : Int32)   (hd : 0 ≤ d) : q_Spec g mX11_isFirst d 0 0 [.int (xs)] h (q_ret ((some (.int (z_b (x_mo_isFirst xs))))) h) := by
  refine q_enter (by decide +kernel) rfl rfl (Nat.le_of_ble_eq_true rfl) (fun hz => ?_)
  change q_W _ _ _ _ _ _ _ _ _ [.int (xs)] [] _
  refine q_iload_n dX11_isFirst_0 rfl ?_
  refine q_bipush (v := 97) dX11_isFirst_1 rfl ?_
  refine q_icmp_eq 48 dX11_isFirst_3 (by decide) (fun b3 => ?_) (fun b3 => ?_)
  · refine q_iconst (v := 1) dX11_isFirst_48 rfl ?_
    refine q_goto 53 dX11_isFirst_49 (by decide) ?_
    have hE : x_mo_isFirst xs = true := by simp only [x_mo_isFirst, if_pos b3]
    rw [hE]
    exact q_ireturn dX11_isFirst_53 rfl rfl (by omega) (by omega) ⟨rfl, rfl⟩
  · refine q_iload_n dX11_isFirst_6 rfl ?_
    refine q_bipush (v := 114) dX11_isFirst_7 rfl ?_
    refine q_icmp_eq 48 dX11_isFirst_9 (by decide) (fun b9 => ?_) (fun b9 => ?_)
    · refine q_iconst (v := 1) dX11_isFirst_48 rfl ?_
      refine q_goto 53 dX11_isFirst_49 (by decide) ?_
      have hE : x_mo_isFirst xs = true := by simp only [x_mo_isFirst, if_neg b3, if_pos b9]
      rw [hE]
      exact q_ireturn dX11_isFirst_53 rfl rfl (by omega) (by omega) ⟨rfl, rfl⟩
    · refine q_iload_n dX11_isFirst_12 rfl ?_
      refine q_bipush (v := 121) dX11_isFirst_13 rfl ?_
      refine q_icmp_eq 48 dX11_isFirst_15 (by decide) (fun b15 => ?_) (fun b15 => ?_)
      · refine q_iconst (v := 1) dX11_isFirst_48 rfl ?_
        refine q_goto 53 dX11_isFirst_49 (by decide) ?_
        have hE : x_mo_isFirst xs = true := by simp only [x_mo_isFirst, if_neg b3, if_neg b9, if_pos b15]
        rw [hE]
        exact q_ireturn dX11_isFirst_53 rfl rfl (by omega) (by omega) ⟨rfl, rfl⟩
      · refine q_iload_n dX11_isFirst_18 rfl ?_
        refine q_bipush (v := 119) dX11_isFirst_19 rfl ?_
        refine q_icmp_eq 48 dX11_isFirst_21 (by decide) (fun b21 => ?_) (fun b21 => ?_)
        · refine q_iconst (v := 1) dX11_isFirst_48 rfl ?_
          refine q_goto 53 dX11_isFirst_49 (by decide) ?_
          have hE : x_mo_isFirst xs = true := by simp only [x_mo_isFirst, if_neg b3, if_neg b9, if_neg b15, if_pos b21]
          rw [hE]
          exact q_ireturn dX11_isFirst_53 rfl rfl (by omega) (by omega) ⟨rfl, rfl⟩
        · refine q_iload_n dX11_isFirst_24 rfl ?_
          refine q_bipush (v := 99) dX11_isFirst_25 rfl ?_
          refine q_icmp_eq 48 dX11_isFirst_27 (by decide) (fun b27 => ?_) (fun b27 => ?_)
          · refine q_iconst (v := 1) dX11_isFirst_48 rfl ?_
            refine q_goto 53 dX11_isFirst_49 (by decide) ?_
            have hE : x_mo_isFirst xs = true := by simp only [x_mo_isFirst, if_neg b3, if_neg b9, if_neg b15, if_neg b21, if_pos b27]
            rw [hE]
            exact q_ireturn dX11_isFirst_53 rfl rfl (by omega) (by omega) ⟨rfl, rfl⟩
          · refine q_iload_n dX11_isFirst_30 rfl ?_
            refine q_bipush (v := 98) dX11_isFirst_31 rfl ?_
            refine q_icmp_eq 48 dX11_isFirst_33 (by decide) (fun b33 => ?_) (fun b33 => ?_)
            · refine q_iconst (v := 1) dX11_isFirst_48 rfl ?_
              refine q_goto 53 dX11_isFirst_49 (by decide) ?_
              have hE : x_mo_isFirst xs = true := by simp only [x_mo_isFirst, if_neg b3, if_neg b9, if_neg b15, if_neg b21, if_neg b27, if_pos b33]
              rw [hE]
              exact q_ireturn dX11_isFirst_53 rfl rfl (by omega) (by omega) ⟨rfl, rfl⟩
            · refine q_iload_n dX11_isFirst_36 rfl ?_
              refine q_bipush (v := 101) dX11_isFirst_37 rfl ?_
              refine q_icmp_eq 48 dX11_isFirst_39 (by decide) (fun b39 => ?_) (fun b39 => ?_)
              · refine q_iconst (v := 1) dX11_isFirst_48 rfl ?_
                refine q_goto 53 dX11_isFirst_49 (by decide) ?_
                have hE : x_mo_isFirst xs = true := by simp only [x_mo_isFirst, if_neg b3, if_neg b9, if_neg b15, if_neg b21, if_neg b27, if_neg b33, if_pos b39]
                rw [hE]
                exact q_ireturn dX11_isFirst_53 rfl rfl (by omega) (by omega) ⟨rfl, rfl⟩
              · refine q_iload_n dX11_isFirst_42 rfl ?_
                refine q_bipush (v := 100) dX11_isFirst_43 rfl ?_
                refine q_icmp_ne 52 dX11_isFirst_45 (by decide) (fun b45 => ?_) (fun b45 => ?_)
                · refine q_iconst (v := 0) dX11_isFirst_52 rfl ?_
                  have hE : x_mo_isFirst xs = false := by simp only [x_mo_isFirst, if_neg b3, if_neg b9, if_neg b15, if_neg b21, if_neg b27, if_neg b33, if_neg b39, if_neg b45]
                  rw [hE]
                  exact q_ireturn dX11_isFirst_53 rfl rfl (by omega) (by omega) ⟨rfl, rfl⟩
                · refine q_iconst (v := 1) dX11_isFirst_48 rfl ?_
                  refine q_goto 53 dX11_isFirst_49 (by decide) ?_
                  have hE : x_mo_isFirst xs = true := by simp only [x_mo_isFirst, if_neg b3, if_neg b9, if_neg b15, if_neg b21, if_neg b27, if_neg b33, if_neg b39, if_pos b45]
                  rw [hE]
                  exact q_ireturn dX11_isFirst_53 rfl rfl (by omega) (by omega) ⟨rfl, rfl⟩