theorem x_pl_2_upd {al : Nat → Int32} {i : Nat} {v xid : Int32} (h : i < 7 ∨ 31 ≤ i) : ∀ r k, k + r ≤ 8 → x_pl_2 (upd al i v) xid r k = x_pl_2 al xid r k := by
  intro r
  induction r with
  | zero => intro k _; rfl
  | succ r ih =>
    intro k hk
    simp only [x_pl_2]
    rw [upd_ne (by omega), ih (k + 1) (by omega)]
theorem x_pl_upd {n : Nat} {al : Nat → Int32} (i : Nat) {v xid : Int32} (h : i < 7 ∨ 31 ≤ i) (hn : n ≤ 8) : x_pl n (upd al i v) xid = x_pl n al xid := x_pl_2_upd h n 0 (by omega)
def x_mo_clearsMoves_7  : Nat → Nat → (Nat → Int32) → (Nat → Int32)
  | 0, _, al_7 => al_7
  | r + 1, k, al_7 => x_mo_clearsMoves_7  r (k + 1) (upd al_7 (39 + k) (0))
set_option maxRecDepth 100000 in
set_option maxHeartbeats 8000000 in
theorem l_mo_clearsMoves_7 {g : q_G} {h : q_H} {d mc ms kc ks : Nat} {Q : q_O → q_H → Prop} {th : Int32} {cg : Nat} {sv : Bool} {rs : Int32} {ac : Int32} {rj : Int32} {ro : Nat → Int32} {ad : Nat → Int32} {bf : Nat → Int32} {ln : Nat → Int32} {lz : Nat} {ip : Nat → Int32} {ty : Nat} {he : Nat} {er : Int32} {ea : Int32} {fa : Int32} {cm : Nat → Int32} {cn : Nat} {n : Nat} {mn : Nat}   (ho_mo_cg : cg ≤ 8) (ho_mo_lz : lz ≤ 160) (ho_mo_ty : ty ≤ 60) (ho_mo_he : he ≤ 60) (ho_mo_cn : cn ≤ 61) (ho_mo_n : n ≤ 8) (ho_mo_mn : mn ≤ 12)  (hd : 0 ≤ d) (hkc : kc + 0 ≤ mc) (hks : ks + 0 ≤ ms) : ∀ (r k : Nat) (al_7 : Nat → Int32) (hh : q_H) (smo_7 : z_Mo hh 215 th al_7 cg sv rs ac rj ro ad bf ln lz ip ty he er ea fa cm cn n mn) (pH : q_same h hh 215 8) (hk_7 : k + r = 12) (K : ∀ (r7_0 : Nat → Int32), x_mo_clearsMoves_7  r k al_7 = r7_0 → ∀ h2, z_Mo h2 215 th r7_0 cg sv rs ac rj ro ad bf ln lz ip ty he er ea fa cm cn n mn → q_same h h2 215 8 → q_W g mX11_clearsMoves d mc ms Q kc ks 29 [q_u, q_u] [] h2), q_W g mX11_clearsMoves d mc ms Q kc ks 7 [.ref (215), .int (nI (k))] [] hh := by
  intro r
  induction r with
  | zero =>
    intro k al_7 hh smo_7 pH hk_7 K
    have hb_mo_cg := smo_7.bcg
    have hb_mo_lz := smo_7.blz
    have hb_mo_ty := smo_7.bty
    have hb_mo_he := smo_7.bhe
    have hb_mo_cn := smo_7.bcn
    have hb_mo_n := smo_7.bn
    have hb_mo_mn := smo_7.bmn
    refine q_iload_n dX11_clearsMoves_7 rfl ?_
    refine q_bipush (v := 12) dX11_clearsMoves_8 rfl ?_
    refine q_icmp_ge 29 dX11_clearsMoves_10 (by decide) (fun b10 => ?_) (fun b10 => ?_)
    · have b10 := (nI_leI (a := 12) (b := k) (by omega) (by omega)).mp b10
      refine q_forget 0 ?_
      refine q_forget 1 ?_
      change q_W _ _ _ _ _ _ _ _ _ [q_u, q_u] [] _
      exact K al_7 (by simp only [x_mo_clearsMoves_7]) hh smo_7 pH
    · have b10 : ¬ (12 ≤ k) := fun q => b10 ((nI_leI (a := 12) (b := k) (by omega) (by omega)).mpr q)
      exact absurd b10 (by omega)
  | succ r ih =>
    intro k al_7 hh smo_7 pH hk_7 K
    have hb_mo_cg := smo_7.bcg
    have hb_mo_lz := smo_7.blz
    have hb_mo_ty := smo_7.bty
    have hb_mo_he := smo_7.bhe
    have hb_mo_cn := smo_7.bcn
    have hb_mo_n := smo_7.bn
    have hb_mo_mn := smo_7.bmn
    refine q_iload_n dX11_clearsMoves_7 rfl ?_
    refine q_bipush (v := 12) dX11_clearsMoves_8 rfl ?_
    refine q_icmp_ge 29 dX11_clearsMoves_10 (by decide) (fun b10 => ?_) (fun b10 => ?_)
    · have b10 := (nI_leI (a := 12) (b := k) (by omega) (by omega)).mp b10
      exact absurd b10 (by omega)
    · have b10 : ¬ (12 ≤ k) := fun q => b10 ((nI_leI (a := 12) (b := k) (by omega) (by omega)).mpr q)
      refine q_aload_n (by first | assumption | omega | decide | (rw [q_R0e]; omega)) dX11_clearsMoves_13 rfl ?_
      refine q_getf (k := 1) (v := .ref (216)) kC_X11 kL_X11_9 rfl (by decide) dX11_clearsMoves_14 smo_7.c0 rfl ?_
      refine q_bipush (v := 39) dX11_clearsMoves_17 rfl ?_
      refine q_iload_n dX11_clearsMoves_19 rfl ?_
      refine q_iaddN (a := 39) (b := k) dX11_clearsMoves_20 ?_
      change q_W _ _ _ _ _ _ _ _ _ _ [.int (nI (39 + k)), .ref (216)] _
      refine q_iconst (v := 0) dX11_clearsMoves_21 rfl ?_
      refine q_iastN (j := 39 + k) dX11_clearsMoves_22 smo_7.c1 (by omega) (by decide) ?_
      refine z_genW (B := fun H => z_Mo H 215 th (upd al_7 (39 + k) (0)) cg sv rs ac rj ro ad bf ln lz ip ty he er ea fa cm cn n mn ∧ q_same h H 215 8) ⟨z_Mo.put1 smo_7 (n' := n) (mn' := mn) (hbn := by first | omega | (split <;> omega)) (hbmn := by first | omega | (split <;> omega)) (hen := (upd_ne (by omega)).trans smo_7.en) (hemn := (upd_ne (by omega)).trans smo_7.emn), pH.trans (q_same.set (by omega) (by omega))⟩ (fun h1 hB => ?_)
      obtain ⟨smo1, p1⟩ := hB
      have hb_mo_cg := smo1.bcg
      have hb_mo_lz := smo1.blz
      have hb_mo_ty := smo1.bty
      have hb_mo_he := smo1.bhe
      have hb_mo_cn := smo1.bcn
      have hb_mo_n := smo1.bn
      have hb_mo_mn := smo1.bmn
      refine q_iinc (x := nI (k)) (v := nI (k + 1)) dX11_clearsMoves_23 rfl (nI_add _ 1) rfl ?_
      change q_W _ _ _ _ _ _ _ _ _ [.ref (215), .int (nI (k + 1))] [] _
      refine q_goto 7 dX11_clearsMoves_26 (by decide) ?_
      change q_W _ _ _ _ _ _ _ _ _ [.ref (215), .int (nI (k + 1))] [] _
      exact ih (k + 1) (upd al_7 (39 + k) (0)) h1 smo1 p1 (by omega) (fun r7_0 e9 => K r7_0 (by simp only [x_mo_clearsMoves_7]; exact e9))
def x_mo_clearsMoves (al : Nat → Int32) (mn : Nat) : (Nat → Int32) := (let a2_0 := x_mo_clearsMoves_7 (12 - mn) mn al; (a2_0))
set_option maxRecDepth 100000 in
set_option maxHeartbeats 8000000 in
theorem e_mo_clearsMoves {g : q_G} {h : q_H} {d : Nat} {th : Int32} {al : Nat → Int32} {cg : Nat} {sv : Bool} {rs : Int32} {ac : Int32} {rj : Int32} {ro : Nat → Int32} {ad : Nat → Int32} {bf : Nat → Int32} {ln : Nat → Int32} {lz : Nat} {ip : Nat → Int32} {ty : Nat} {he : Nat} {er : Int32} {ea : Int32} {fa : Int32} {cm : Nat → Int32} {cn : Nat} {n : Nat} {mn : Nat} (smo : z_Mo h 215 th al cg sv rs ac rj ro ad bf ln lz ip ty he er ea fa cm cn n mn)     (hd : 0 ≤ d) : q_Spec g mX11_clearsMoves d 0 0 [.ref (215)] h (q_chg (.inl none) (fun h1 => z_Mo h1 215 th (x_mo_clearsMoves al mn) cg sv rs ac rj ro ad bf ln lz ip ty he er ea fa cm cn n mn ∧ q_same h h1 215 8)) := by
  have hb_mo_cg := smo.bcg
  have hb_mo_lz := smo.blz
  have hb_mo_ty := smo.bty
  have hb_mo_he := smo.bhe
  have hb_mo_cn := smo.bcn
  have hb_mo_n := smo.bn
  have hb_mo_mn := smo.bmn
  have ho_mo_cg := smo.bcg
  have ho_mo_lz := smo.blz
  have ho_mo_ty := smo.bty
  have ho_mo_he := smo.bhe
  have ho_mo_cn := smo.bcn
  have ho_mo_n := smo.bn
  have ho_mo_mn := smo.bmn
  have p0 : q_same h h 215 8 := q_same.rfl'
  refine q_enter (by decide +kernel) rfl rfl (Nat.le_of_ble_eq_true rfl) (fun hz => ?_)
  change q_W _ _ _ _ _ _ _ _ _ [.ref (215), q_u] [] _
  refine q_aload_n (by first | assumption | omega | decide | (rw [q_R0e]; omega)) dX11_clearsMoves_0 rfl ?_
  refine q_getf (k := 1) (v := .ref (216)) kC_X11 kL_X11_9 rfl (by decide) dX11_clearsMoves_1 smo.c0 rfl ?_
  refine q_iconst (v := 3) dX11_clearsMoves_4 rfl ?_
  refine q_ialdN (j := 3) (f := al) dX11_clearsMoves_5 smo.c1 (by omega) (by decide) ?_
  rw [smo.emn]
  change q_W _ _ _ _ _ _ _ _ _ _ [.int (nI (mn))] _
  refine q_istore_n dX11_clearsMoves_6 (by decide) rfl ?_
  change q_W _ _ _ _ _ _ _ _ _ [.ref (215), .int (nI (mn))] [] _
  change q_W _ _ _ _ _ _ _ _ _ [.ref (215), .int (nI (mn))] [] _
  refine l_mo_clearsMoves_7 ho_mo_cg ho_mo_lz ho_mo_ty ho_mo_he ho_mo_cn ho_mo_n ho_mo_mn (by omega) (by omega) (by omega) (12 - mn) mn al h smo p0 (by omega) (fun a2_0 x2 h3 smo3 p3 => ?_)
  have hb_mo_cg := smo3.bcg
  have hb_mo_lz := smo3.blz
  have hb_mo_ty := smo3.bty
  have hb_mo_he := smo3.bhe
  have hb_mo_cn := smo3.bcn
  have hb_mo_n := smo3.bn
  have hb_mo_mn := smo3.bmn
  change q_W _ _ _ _ _ _ _ _ 29 [q_u, q_u] [] _
  have hE : x_mo_clearsMoves al mn = (a2_0) := by simp only [x_mo_clearsMoves, x2]
  rw [hE]
  exact q_return dX11_clearsMoves_29 rfl (by omega) (by omega) ⟨rfl, smo3, p3⟩
def x_mo_adds (al : Nat → Int32) (rs : Int32) (n : Nat) (xw : Int32) : (Int32) × (Nat → Int32) × (Int32) × (Nat) := (if x_mo_in xw 1 9 then (if n = 8 then (2, al, rs, n) else (0, upd (upd (upd (upd (upd (upd al (7 + (3 * n) + 0) (al 1)) (7 + (3 * n) + 1) (xw)) (7 + (3 * n) + 2) (0)) (31 + n) (0)) 0 (nI (n + 1))) 1 (((upd (upd (upd (upd (upd al (7 + (3 * n) + 0) (al 1)) (7 + (3 * n) + 1) (xw)) (7 + (3 * n) + 2) (0)) (31 + n) (0)) 0 (nI (n + 1))) 1) + (1 : Int32)), al 1, n + 1)) else (1, al, rs, n))
set_option maxRecDepth 100000 in
set_option maxHeartbeats 8000000 in
theorem e_mo_adds {g : q_G} {h : q_H} {d : Nat} {th : Int32} {al : Nat → Int32} {cg : Nat} {sv : Bool} {rs : Int32} {ac : Int32} {rj : Int32} {ro : Nat → Int32} {ad : Nat → Int32} {bf : Nat → Int32} {ln : Nat → Int32} {lz : Nat} {ip : Nat → Int32} {ty : Nat} {he : Nat} {er : Int32} {ea : Int32} {fa : Int32} {cm : Nat → Int32} {cn : Nat} {n : Nat} {mn : Nat} (smo : z_Mo h 215 th al cg sv rs ac rj ro ad bf ln lz ip ty he er ea fa cm cn n mn)  (xw : Int32)   (hd : 1 ≤ d) : q_Spec g mX11_adds d 0 0 [.ref (215), .int (xw)] h (q_chg (.inl (some (.int (x_mo_adds al rs n xw).1))) (fun h1 => z_Mo h1 215 th ((x_mo_adds al rs n xw).2.1) cg sv ((x_mo_adds al rs n xw).2.2.1) ac rj ro ad bf ln lz ip ty he er ea fa cm cn ((x_mo_adds al rs n xw).2.2.2) mn ∧ q_same h h1 215 8)) := by
  have hb_mo_cg := smo.bcg
  have hb_mo_lz := smo.blz
  have hb_mo_ty := smo.bty
  have hb_mo_he := smo.bhe
  have hb_mo_cn := smo.bcn
  have hb_mo_n := smo.bn
  have hb_mo_mn := smo.bmn
  have ho_mo_cg := smo.bcg
  have ho_mo_lz := smo.blz
  have ho_mo_ty := smo.bty
  have ho_mo_he := smo.bhe
  have ho_mo_cn := smo.bcn
  have ho_mo_n := smo.bn
  have ho_mo_mn := smo.bmn
  have p0 : q_same h h 215 8 := q_same.rfl'
  refine q_enter (by decide +kernel) rfl rfl (Nat.le_of_ble_eq_true rfl) (fun hz => ?_)
  change q_W _ _ _ _ _ _ _ _ _ [.ref (215), .int (xw), q_u] [] _
  refine q_iload_n dX11_adds_0 rfl ?_
  refine q_iconst (v := 1) dX11_adds_1 rfl ?_
  refine q_bipush (v := 9) dX11_adds_2 rfl ?_
  refine q_invS (mc' := 0) (ms' := 0) (d' := d - 1) (as := [.int (xw), .int (1), .int (9)]) dX11_adds_4 kM_X11_in kL_X11_109 kT_X11_in rfl rfl rfl (Nat.le_of_ble_eq_true rfl) (by omega) (by decide) (by omega) (by omega) (e_mo_in (d := d - 1) xw 1 9 (by omega)) (q_kR ?_) q_xR
  change q_W _ _ _ _ _ _ _ _ 7 [.ref (215), .int (xw), q_u] [.int (z_b (x_mo_in xw 1 9))] _
  refine q_if_ne 12 dX11_adds_7 (by decide) (fun b7 => ?_) (fun b7 => ?_)
  · have b7 := z_b1 b7
    refine q_aload_n (by first | assumption | omega | decide | (rw [q_R0e]; omega)) dX11_adds_12 rfl ?_
    refine q_getf (k := 1) (v := .ref (216)) kC_X11 kL_X11_9 rfl (by decide) dX11_adds_13 smo.c0 rfl ?_
    refine q_iconst (v := 0) dX11_adds_16 rfl ?_
    refine q_ialdN (j := 0) (f := al) dX11_adds_17 smo.c1 (by omega) (by decide) ?_
    rw [smo.en]
    change q_W _ _ _ _ _ _ _ _ _ _ [.int (nI (n))] _
    refine q_istore_n dX11_adds_18 (by decide) rfl ?_
    change q_W _ _ _ _ _ _ _ _ _ [.ref (215), .int (xw), .int (nI (n))] [] _
    refine q_iload_n dX11_adds_19 rfl ?_
    refine q_bipush (v := 8) dX11_adds_20 rfl ?_
    refine q_icmp_ne 27 dX11_adds_22 (by decide) (fun b22 => ?_) (fun b22 => ?_)
    · have b22 : ¬ (n = 8) := fun q => b22 ((nI_eq (a := n) (b := 8) (by omega) (by omega)).mpr q)
      refine q_aload_n (by first | assumption | omega | decide | (rw [q_R0e]; omega)) dX11_adds_27 rfl ?_
      refine q_aload_n (by first | assumption | omega | decide | (rw [q_R0e]; omega)) dX11_adds_28 rfl ?_
      refine q_getf (k := 1) (v := .ref (216)) kC_X11 kL_X11_9 rfl (by decide) dX11_adds_29 smo.c0 rfl ?_
      refine q_iconst (v := 1) dX11_adds_32 rfl ?_
      refine q_ialdN (j := 1) (f := al) dX11_adds_33 smo.c1 (by omega) (by decide) ?_
      change q_W _ _ _ _ _ _ _ _ _ _ [.int (al 1), .ref (215)] _
      refine q_putf (k := 4) kC_X11 kL_X11_50 rfl (by decide) rfl dX11_adds_34 smo.c0 (Nat.le_of_ble_eq_true rfl) ⟨rfl, rfl⟩ rfl ?_
      refine z_genW (B := fun H => z_Mo H 215 th al cg sv (al 1) ac rj ro ad bf ln lz ip ty he er ea fa cm cn n mn ∧ q_same h H 215 8) ⟨z_Mo.put0 smo (cg' := cg) (sv' := sv) (lz' := lz) (ty' := ty) (he' := he) (cn' := cn) (hbcg := by first | omega | (split <;> omega)) (hblz := by first | omega | (split <;> omega)) (hbty := by first | omega | (split <;> omega)) (hbhe := by first | omega | (split <;> omega)) (hbcn := by first | omega | (split <;> omega)), p0.trans (q_same.set (by omega) (by omega))⟩ (fun h1 hB => ?_)
      obtain ⟨smo1, p1⟩ := hB
      have hb_mo_cg := smo1.bcg
      have hb_mo_lz := smo1.blz
      have hb_mo_ty := smo1.bty
      have hb_mo_he := smo1.bhe
      have hb_mo_cn := smo1.bcn
      have hb_mo_n := smo1.bn
      have hb_mo_mn := smo1.bmn
      refine q_aload_n (by first | assumption | omega | decide | (rw [q_R0e]; omega)) dX11_adds_37 rfl ?_
      refine q_getf (k := 1) (v := .ref (216)) kC_X11 kL_X11_9 rfl (by decide) dX11_adds_38 smo1.c0 rfl ?_
      refine q_bipush (v := 7) dX11_adds_41 rfl ?_
      refine q_iconst (v := 3) dX11_adds_43 rfl ?_
      refine q_iload_n dX11_adds_44 rfl ?_
      refine q_imulN (a := 3) (b := n) dX11_adds_45 ?_
      change q_W _ _ _ _ _ _ _ _ _ _ [.int (nI (3 * n)), .int (7), .ref (216)] _
      refine q_iaddN (a := 7) (b := 3 * n) dX11_adds_46 ?_
      change q_W _ _ _ _ _ _ _ _ _ _ [.int (nI (7 + (3 * n))), .ref (216)] _
      refine q_iconst (v := 0) dX11_adds_47 rfl ?_
      refine q_iaddN (a := 7 + (3 * n)) (b := 0) dX11_adds_48 ?_
      change q_W _ _ _ _ _ _ _ _ _ _ [.int (nI (7 + (3 * n) + 0)), .ref (216)] _
      refine q_aload_n (by first | assumption | omega | decide | (rw [q_R0e]; omega)) dX11_adds_49 rfl ?_
      refine q_getf (k := 4) (v := .int (al 1)) kC_X11 kL_X11_50 rfl (by decide) dX11_adds_50 smo1.c0 rfl ?_
      refine q_iastN (j := 7 + (3 * n) + 0) dX11_adds_53 smo1.c1 (by omega) (by decide) ?_
      refine z_genW (B := fun H => z_Mo H 215 th (upd al (7 + (3 * n) + 0) (al 1)) cg sv (al 1) ac rj ro ad bf ln lz ip ty he er ea fa cm cn n mn ∧ q_same h H 215 8) ⟨z_Mo.put1 smo1 (n' := n) (mn' := mn) (hbn := by first | omega | (split <;> omega)) (hbmn := by first | omega | (split <;> omega)) (hen := (upd_ne (by omega)).trans smo1.en) (hemn := (upd_ne (by omega)).trans smo1.emn), p1.trans (q_same.set (by omega) (by omega))⟩ (fun h2 hB => ?_)
      obtain ⟨smo2, p2⟩ := hB
      have hb_mo_cg := smo2.bcg
      have hb_mo_lz := smo2.blz
      have hb_mo_ty := smo2.bty
      have hb_mo_he := smo2.bhe
      have hb_mo_cn := smo2.bcn
      have hb_mo_n := smo2.bn
      have hb_mo_mn := smo2.bmn
      refine q_aload_n (by first | assumption | omega | decide | (rw [q_R0e]; omega)) dX11_adds_54 rfl ?_
      refine q_getf (k := 1) (v := .ref (216)) kC_X11 kL_X11_9 rfl (by decide) dX11_adds_55 smo2.c0 rfl ?_
      refine q_bipush (v := 7) dX11_adds_58 rfl ?_
      refine q_iconst (v := 3) dX11_adds_60 rfl ?_
      refine q_iload_n dX11_adds_61 rfl ?_
      refine q_imulN (a := 3) (b := n) dX11_adds_62 ?_
      change q_W _ _ _ _ _ _ _ _ _ _ [.int (nI (3 * n)), .int (7), .ref (216)] _
      refine q_iaddN (a := 7) (b := 3 * n) dX11_adds_63 ?_
      change q_W _ _ _ _ _ _ _ _ _ _ [.int (nI (7 + (3 * n))), .ref (216)] _
      refine q_iconst (v := 1) dX11_adds_64 rfl ?_
      refine q_iaddN (a := 7 + (3 * n)) (b := 1) dX11_adds_65 ?_
      change q_W _ _ _ _ _ _ _ _ _ _ [.int (nI (7 + (3 * n) + 1)), .ref (216)] _
      refine q_iload_n dX11_adds_66 rfl ?_
      refine q_iastN (j := 7 + (3 * n) + 1) dX11_adds_67 smo2.c1 (by omega) (by decide) ?_
      refine z_genW (B := fun H => z_Mo H 215 th (upd (upd al (7 + (3 * n) + 0) (al 1)) (7 + (3 * n) + 1) (xw)) cg sv (al 1) ac rj ro ad bf ln lz ip ty he er ea fa cm cn n mn ∧ q_same h H 215 8) ⟨z_Mo.put1 smo2 (n' := n) (mn' := mn) (hbn := by first | omega | (split <;> omega)) (hbmn := by first | omega | (split <;> omega)) (hen := (upd_ne (by omega)).trans smo2.en) (hemn := (upd_ne (by omega)).trans smo2.emn), p2.trans (q_same.set (by omega) (by omega))⟩ (fun h3 hB => ?_)
      obtain ⟨smo3, p3⟩ := hB
      have hb_mo_cg := smo3.bcg
      have hb_mo_lz := smo3.blz
      have hb_mo_ty := smo3.bty
      have hb_mo_he := smo3.bhe
      have hb_mo_cn := smo3.bcn
      have hb_mo_n := smo3.bn
      have hb_mo_mn := smo3.bmn
      refine q_aload_n (by first | assumption | omega | decide | (rw [q_R0e]; omega)) dX11_adds_68 rfl ?_
      refine q_getf (k := 1) (v := .ref (216)) kC_X11 kL_X11_9 rfl (by decide) dX11_adds_69 smo3.c0 rfl ?_
      refine q_bipush (v := 7) dX11_adds_72 rfl ?_
      refine q_iconst (v := 3) dX11_adds_74 rfl ?_
      refine q_iload_n dX11_adds_75 rfl ?_
      refine q_imulN (a := 3) (b := n) dX11_adds_76 ?_
      change q_W _ _ _ _ _ _ _ _ _ _ [.int (nI (3 * n)), .int (7), .ref (216)] _
      refine q_iaddN (a := 7) (b := 3 * n) dX11_adds_77 ?_
      change q_W _ _ _ _ _ _ _ _ _ _ [.int (nI (7 + (3 * n))), .ref (216)] _
      refine q_iconst (v := 2) dX11_adds_78 rfl ?_
      refine q_iaddN (a := 7 + (3 * n)) (b := 2) dX11_adds_79 ?_
      change q_W _ _ _ _ _ _ _ _ _ _ [.int (nI (7 + (3 * n) + 2)), .ref (216)] _
      refine q_iconst (v := 0) dX11_adds_80 rfl ?_
      refine q_iastN (j := 7 + (3 * n) + 2) dX11_adds_81 smo3.c1 (by omega) (by decide) ?_
      refine z_genW (B := fun H => z_Mo H 215 th (upd (upd (upd al (7 + (3 * n) + 0) (al 1)) (7 + (3 * n) + 1) (xw)) (7 + (3 * n) + 2) (0)) cg sv (al 1) ac rj ro ad bf ln lz ip ty he er ea fa cm cn n mn ∧ q_same h H 215 8) ⟨z_Mo.put1 smo3 (n' := n) (mn' := mn) (hbn := by first | omega | (split <;> omega)) (hbmn := by first | omega | (split <;> omega)) (hen := (upd_ne (by omega)).trans smo3.en) (hemn := (upd_ne (by omega)).trans smo3.emn), p3.trans (q_same.set (by omega) (by omega))⟩ (fun h4 hB => ?_)
      obtain ⟨smo4, p4⟩ := hB
      have hb_mo_cg := smo4.bcg
      have hb_mo_lz := smo4.blz
      have hb_mo_ty := smo4.bty
      have hb_mo_he := smo4.bhe
      have hb_mo_cn := smo4.bcn
      have hb_mo_n := smo4.bn
      have hb_mo_mn := smo4.bmn
      refine q_aload_n (by first | assumption | omega | decide | (rw [q_R0e]; omega)) dX11_adds_82 rfl ?_
      refine q_getf (k := 1) (v := .ref (216)) kC_X11 kL_X11_9 rfl (by decide) dX11_adds_83 smo4.c0 rfl ?_
      refine q_bipush (v := 31) dX11_adds_86 rfl ?_
      refine q_iload_n dX11_adds_88 rfl ?_
      refine q_iaddN (a := 31) (b := n) dX11_adds_89 ?_
      change q_W _ _ _ _ _ _ _ _ _ _ [.int (nI (31 + n)), .ref (216)] _
      refine q_iconst (v := 0) dX11_adds_90 rfl ?_
      refine q_iastN (j := 31 + n) dX11_adds_91 smo4.c1 (by omega) (by decide) ?_
      refine z_genW (B := fun H => z_Mo H 215 th (upd (upd (upd (upd al (7 + (3 * n) + 0) (al 1)) (7 + (3 * n) + 1) (xw)) (7 + (3 * n) + 2) (0)) (31 + n) (0)) cg sv (al 1) ac rj ro ad bf ln lz ip ty he er ea fa cm cn n mn ∧ q_same h H 215 8) ⟨z_Mo.put1 smo4 (n' := n) (mn' := mn) (hbn := by first | omega | (split <;> omega)) (hbmn := by first | omega | (split <;> omega)) (hen := (upd_ne (by omega)).trans smo4.en) (hemn := (upd_ne (by omega)).trans smo4.emn), p4.trans (q_same.set (by omega) (by omega))⟩ (fun h5 hB => ?_)
      obtain ⟨smo5, p5⟩ := hB
      have hb_mo_cg := smo5.bcg
      have hb_mo_lz := smo5.blz
      have hb_mo_ty := smo5.bty
      have hb_mo_he := smo5.bhe
      have hb_mo_cn := smo5.bcn
      have hb_mo_n := smo5.bn
      have hb_mo_mn := smo5.bmn
      refine q_aload_n (by first | assumption | omega | decide | (rw [q_R0e]; omega)) dX11_adds_92 rfl ?_
      refine q_getf (k := 1) (v := .ref (216)) kC_X11 kL_X11_9 rfl (by decide) dX11_adds_93 smo5.c0 rfl ?_
      refine q_iconst (v := 0) dX11_adds_96 rfl ?_
      refine q_dup2 dX11_adds_97 rfl rfl ?_
      refine q_ialdN (j := 0) (f := upd (upd (upd (upd al (7 + (3 * n) + 0) (al 1)) (7 + (3 * n) + 1) (xw)) (7 + (3 * n) + 2) (0)) (31 + n) (0)) dX11_adds_98 smo5.c1 (by omega) (by decide) ?_
      rw [smo5.en]
      change q_W _ _ _ _ _ _ _ _ _ _ [.int (nI (n)), .int (0), .ref (216)] _
      refine q_iconst (v := 1) dX11_adds_99 rfl ?_
      refine q_iaddN (a := n) (b := 1) dX11_adds_100 ?_
      change q_W _ _ _ _ _ _ _ _ _ _ [.int (nI (n + 1)), .int (0), .ref (216)] _
      refine q_iastN (j := 0) dX11_adds_101 smo5.c1 (by omega) (by decide) ?_
      refine z_genW (B := fun H => z_Mo H 215 th (upd (upd (upd (upd (upd al (7 + (3 * n) + 0) (al 1)) (7 + (3 * n) + 1) (xw)) (7 + (3 * n) + 2) (0)) (31 + n) (0)) 0 (nI (n + 1))) cg sv (al 1) ac rj ro ad bf ln lz ip ty he er ea fa cm cn (n + 1) mn ∧ q_same h H 215 8) ⟨z_Mo.put1 smo5 (n' := n + 1) (mn' := mn) (hbn := by first | omega | (split <;> omega)) (hbmn := by first | omega | (split <;> omega)) (hen := upd_eq) (hemn := (upd_ne (by omega)).trans smo5.emn), p5.trans (q_same.set (by omega) (by omega))⟩ (fun h6 hB => ?_)
      obtain ⟨smo6, p6⟩ := hB
      have hb_mo_cg := smo6.bcg
      have hb_mo_lz := smo6.blz
      have hb_mo_ty := smo6.bty
      have hb_mo_he := smo6.bhe
      have hb_mo_cn := smo6.bcn
      have hb_mo_n := smo6.bn
      have hb_mo_mn := smo6.bmn
      refine q_aload_n (by first | assumption | omega | decide | (rw [q_R0e]; omega)) dX11_adds_102 rfl ?_
      refine q_getf (k := 1) (v := .ref (216)) kC_X11 kL_X11_9 rfl (by decide) dX11_adds_103 smo6.c0 rfl ?_
      refine q_iconst (v := 1) dX11_adds_106 rfl ?_
      refine q_dup2 dX11_adds_107 rfl rfl ?_
      refine q_ialdN (j := 1) (f := upd (upd (upd (upd (upd al (7 + (3 * n) + 0) (al 1)) (7 + (3 * n) + 1) (xw)) (7 + (3 * n) + 2) (0)) (31 + n) (0)) 0 (nI (n + 1))) dX11_adds_108 smo6.c1 (by omega) (by decide) ?_
      change q_W _ _ _ _ _ _ _ _ _ _ [.int ((upd (upd (upd (upd (upd al (7 + (3 * n) + 0) (al 1)) (7 + (3 * n) + 1) (xw)) (7 + (3 * n) + 2) (0)) (31 + n) (0)) 0 (nI (n + 1))) 1), .int (1), .ref (216)] _
      refine q_iconst (v := 1) dX11_adds_109 rfl ?_
      refine q_iadd dX11_adds_110 ?_
      refine q_iastN (j := 1) dX11_adds_111 smo6.c1 (by omega) (by decide) ?_
      refine z_genW (B := fun H => z_Mo H 215 th (upd (upd (upd (upd (upd (upd al (7 + (3 * n) + 0) (al 1)) (7 + (3 * n) + 1) (xw)) (7 + (3 * n) + 2) (0)) (31 + n) (0)) 0 (nI (n + 1))) 1 (((upd (upd (upd (upd (upd al (7 + (3 * n) + 0) (al 1)) (7 + (3 * n) + 1) (xw)) (7 + (3 * n) + 2) (0)) (31 + n) (0)) 0 (nI (n + 1))) 1) + (1 : Int32))) cg sv (al 1) ac rj ro ad bf ln lz ip ty he er ea fa cm cn (n + 1) mn ∧ q_same h H 215 8) ⟨z_Mo.put1 smo6 (n' := n + 1) (mn' := mn) (hbn := by first | omega | (split <;> omega)) (hbmn := by first | omega | (split <;> omega)) (hen := (upd_ne (by omega)).trans smo6.en) (hemn := (upd_ne (by omega)).trans smo6.emn), p6.trans (q_same.set (by omega) (by omega))⟩ (fun h7 hB => ?_)
      obtain ⟨smo7, p7⟩ := hB
      have hb_mo_cg := smo7.bcg
      have hb_mo_lz := smo7.blz
      have hb_mo_ty := smo7.bty
      have hb_mo_he := smo7.bhe
      have hb_mo_cn := smo7.bcn
      have hb_mo_n := smo7.bn
      have hb_mo_mn := smo7.bmn
      refine q_iconst (v := 0) dX11_adds_112 rfl ?_
      have hE : x_mo_adds al rs n xw = (0, upd (upd (upd (upd (upd (upd al (7 + (3 * n) + 0) (al 1)) (7 + (3 * n) + 1) (xw)) (7 + (3 * n) + 2) (0)) (31 + n) (0)) 0 (nI (n + 1))) 1 (((upd (upd (upd (upd (upd al (7 + (3 * n) + 0) (al 1)) (7 + (3 * n) + 1) (xw)) (7 + (3 * n) + 2) (0)) (31 + n) (0)) 0 (nI (n + 1))) 1) + (1 : Int32)), al 1, n + 1) := by simp only [x_mo_adds, if_pos b7, if_neg b22]
      rw [hE]
      exact q_ireturn dX11_adds_113 rfl rfl (by omega) (by omega) ⟨rfl, smo7, p7⟩
    · have b22 := (nI_eq (a := n) (b := 8) (by omega) (by omega)).mp b22
      refine q_iconst (v := 2) dX11_adds_25 rfl ?_
      have hE : x_mo_adds al rs n xw = (2, al, rs, n) := by simp only [x_mo_adds, if_pos b7, if_pos b22]
      rw [hE]
      exact q_ireturn dX11_adds_26 rfl rfl (by omega) (by omega) ⟨rfl, smo, p0⟩
  · have b7 := z_b0n b7
    refine q_iconst (v := 1) dX11_adds_10 rfl ?_
    have hE : x_mo_adds al rs n xw = (1, al, rs, n) := by simp only [x_mo_adds, if_neg b7]
    rw [hE]
    exact q_ireturn dX11_adds_11 rfl rfl (by omega) (by omega) ⟨rfl, smo, p0⟩
def x_mo_without (xs : Int32) (j : Nat) : Int32 := (xs &&& (((1 : Int32) <<< ((nI (j)) &&& 31)) - (1 : Int32))) ||| ((xs >>> ((nI (j + 1)) &&& 31)) <<< ((nI (j)) &&& 31))
set_option maxRecDepth 100000 in
set_option maxHeartbeats 8000000 in
theorem e_mo_without {g : q_G} {h : q_H} {d : Nat}   (xs : Int32) (j : Nat) (hj : j < 8)  (hd : 0 ≤ d) : q_Spec g mX11_without d 0 0 [.int (xs), .int (nI (j))] h (q_ret ((some (.int (x_mo_without xs j)))) h) := by
  refine q_enter (by decide +kernel) rfl rfl (Nat.le_of_ble_eq_true rfl) (fun hz => ?_)
  change q_W _ _ _ _ _ _ _ _ _ [.int (xs), .int (nI (j))] [] _
  refine q_iload_n dX11_without_0 rfl ?_
  refine q_iconst (v := 1) dX11_without_1 rfl ?_
  refine q_iload_n dX11_without_2 rfl ?_
  refine q_ishl dX11_without_3 ?_
  refine q_iconst (v := 1) dX11_without_4 rfl ?_
  refine q_isub dX11_without_5 ?_
  refine q_iand dX11_without_6 ?_
  refine q_iload_n dX11_without_7 rfl ?_
  refine q_iload_n dX11_without_8 rfl ?_
  refine q_iconst (v := 1) dX11_without_9 rfl ?_
  refine q_iaddN (a := j) (b := 1) dX11_without_10 ?_
  change q_W _ _ _ _ _ _ _ _ _ _ [.int (nI (j + 1)), .int (xs), .int (xs &&& (((1 : Int32) <<< ((nI (j)) &&& 31)) - (1 : Int32)))] _
  refine q_ishr dX11_without_11 ?_
  refine q_iload_n dX11_without_12 rfl ?_
  refine q_ishl dX11_without_13 ?_
  refine q_ior dX11_without_14 ?_
  have hE : x_mo_without xs j = (xs &&& (((1 : Int32) <<< ((nI (j)) &&& 31)) - (1 : Int32))) ||| ((xs >>> ((nI (j + 1)) &&& 31)) <<< ((nI (j)) &&& 31)) := by simp only [x_mo_without]
  rw [hE]
  exact q_ireturn dX11_without_15 rfl rfl (by omega) (by omega) ⟨rfl, rfl⟩
def x_mo_wasMoved_4 (al : Nat → Int32) (xid : Int32) : Nat → Nat → (Bool) → (Bool)
  | 0, _, c4_2 => c4_2
  | r + 1, k, c4_2 => (if (al (39 + k)) = (xid) then x_mo_wasMoved_4 al xid r (k + 1) (c4_2 || true) else x_mo_wasMoved_4 al xid r (k + 1) (c4_2 || false))
set_option maxRecDepth 100000 in
set_option maxHeartbeats 8000000 in
theorem l_mo_wasMoved_4 {g : q_G} {h : q_H} {d mc ms kc ks : Nat} {Q : q_O → q_H → Prop} {th : Int32} {al : Nat → Int32} {cg : Nat} {sv : Bool} {rs : Int32} {ac : Int32} {rj : Int32} {ro : Nat → Int32} {ad : Nat → Int32} {bf : Nat → Int32} {ln : Nat → Int32} {lz : Nat} {ip : Nat → Int32} {ty : Nat} {he : Nat} {er : Int32} {ea : Int32} {fa : Int32} {cm : Nat → Int32} {cn : Nat} {n : Nat} {mn : Nat} {xid : Int32} (smo : z_Mo h 215 th al cg sv rs ac rj ro ad bf ln lz ip ty he er ea fa cm cn n mn)  (ho_mo_cg : cg ≤ 8) (ho_mo_lz : lz ≤ 160) (ho_mo_ty : ty ≤ 60) (ho_mo_he : he ≤ 60) (ho_mo_cn : cn ≤ 61) (ho_mo_n : n ≤ 8) (ho_mo_mn : mn ≤ 12)  (hd : 0 ≤ d) (hkc : kc + 0 ≤ mc) (hks : ks + 0 ≤ ms) : ∀ (r k : Nat) (c4_2 : Bool) (hk_4 : k + r = mn) (K : ∀ (r4_0 : Bool), x_mo_wasMoved_4 al xid r k c4_2 = r4_0 → q_W g mX11_wasMoved d mc ms Q kc ks 41 [q_u, q_u, .int (z_b (r4_0)), q_u] [] h), q_W g mX11_wasMoved d mc ms Q kc ks 4 [.ref (215), .int (xid), .int (z_b (c4_2)), .int (nI (k))] [] h := by
  intro r
  induction r with
  | zero =>
    intro k c4_2  hk_4 K
    have hb_mo_cg := smo.bcg
    have hb_mo_lz := smo.blz
    have hb_mo_ty := smo.bty
    have hb_mo_he := smo.bhe
    have hb_mo_cn := smo.bcn
    have hb_mo_n := smo.bn
    have hb_mo_mn := smo.bmn
    refine q_iload_n dX11_wasMoved_4 rfl ?_
    refine q_aload_n (by first | assumption | omega | decide | (rw [q_R0e]; omega)) dX11_wasMoved_5 rfl ?_
    refine q_getf (k := 1) (v := .ref (216)) kC_X11 kL_X11_9 rfl (by decide) dX11_wasMoved_6 smo.c0 rfl ?_
    refine q_iconst (v := 3) dX11_wasMoved_9 rfl ?_
    refine q_ialdN (j := 3) (f := al) dX11_wasMoved_10 smo.c1 (by omega) (by decide) ?_
    rw [smo.emn]
    change q_W _ _ _ _ _ _ _ _ _ _ [.int (nI (mn)), .int (nI (k))] _
    refine q_icmp_ge 41 dX11_wasMoved_11 (by decide) (fun b11 => ?_) (fun b11 => ?_)
    · have b11 := (nI_leI (a := mn) (b := k) (by omega) (by omega)).mp b11
      refine q_forget 0 ?_
      refine q_forget 1 ?_
      refine q_forget 3 ?_
      change q_W _ _ _ _ _ _ _ _ _ [q_u, q_u, .int (z_b (c4_2)), q_u] [] _
      exact K c4_2 (by simp only [x_mo_wasMoved_4])
    · have b11 : ¬ (mn ≤ k) := fun q => b11 ((nI_leI (a := mn) (b := k) (by omega) (by omega)).mpr q)
      exact absurd b11 (by omega)
  | succ r ih =>
    intro k c4_2  hk_4 K
    have hb_mo_cg := smo.bcg
    have hb_mo_lz := smo.blz
    have hb_mo_ty := smo.bty
    have hb_mo_he := smo.bhe
    have hb_mo_cn := smo.bcn
    have hb_mo_n := smo.bn
    have hb_mo_mn := smo.bmn
    refine q_iload_n dX11_wasMoved_4 rfl ?_
    refine q_aload_n (by first | assumption | omega | decide | (rw [q_R0e]; omega)) dX11_wasMoved_5 rfl ?_
    refine q_getf (k := 1) (v := .ref (216)) kC_X11 kL_X11_9 rfl (by decide) dX11_wasMoved_6 smo.c0 rfl ?_
    refine q_iconst (v := 3) dX11_wasMoved_9 rfl ?_
    refine q_ialdN (j := 3) (f := al) dX11_wasMoved_10 smo.c1 (by omega) (by decide) ?_
    rw [smo.emn]
    change q_W _ _ _ _ _ _ _ _ _ _ [.int (nI (mn)), .int (nI (k))] _
    refine q_icmp_ge 41 dX11_wasMoved_11 (by decide) (fun b11 => ?_) (fun b11 => ?_)
    · have b11 := (nI_leI (a := mn) (b := k) (by omega) (by omega)).mp b11
      exact absurd b11 (by omega)
    · have b11 : ¬ (mn ≤ k) := fun q => b11 ((nI_leI (a := mn) (b := k) (by omega) (by omega)).mpr q)
      refine q_iload_n dX11_wasMoved_14 rfl ?_
      refine q_aload_n (by first | assumption | omega | decide | (rw [q_R0e]; omega)) dX11_wasMoved_15 rfl ?_
      refine q_getf (k := 1) (v := .ref (216)) kC_X11 kL_X11_9 rfl (by decide) dX11_wasMoved_16 smo.c0 rfl ?_
      refine q_bipush (v := 39) dX11_wasMoved_19 rfl ?_
      refine q_iload_n dX11_wasMoved_21 rfl ?_
      refine q_iaddN (a := 39) (b := k) dX11_wasMoved_22 ?_
      change q_W _ _ _ _ _ _ _ _ _ _ [.int (nI (39 + k)), .ref (216), .int (z_b (c4_2))] _
      refine q_ialdN (j := 39 + k) (f := al) dX11_wasMoved_23 smo.c1 (by omega) (by decide) ?_
      change q_W _ _ _ _ _ _ _ _ _ _ [.int (al (39 + k)), .int (z_b (c4_2))] _
      refine q_iload_n dX11_wasMoved_24 rfl ?_
      refine q_icmp_ne 32 dX11_wasMoved_25 (by decide) (fun b25 => ?_) (fun b25 => ?_)
      · refine q_iconst (v := 0) dX11_wasMoved_32 rfl ?_
        change q_W _ _ _ _ _ _ _ _ _ _ (.int (z_b (false)) :: .int (z_b (c4_2)) :: []) _
        refine q_ior dX11_wasMoved_33 ?_
        rw [z_bor]
        refine q_istore_n dX11_wasMoved_34 (by decide) rfl ?_
        change q_W _ _ _ _ _ _ _ _ _ [.ref (215), .int (xid), .int (z_b ((c4_2 || false))), .int (nI (k))] [] _
        refine q_iinc (x := nI (k)) (v := nI (k + 1)) dX11_wasMoved_35 rfl (nI_add _ 1) rfl ?_
        change q_W _ _ _ _ _ _ _ _ _ [.ref (215), .int (xid), .int (z_b ((c4_2 || false))), .int (nI (k + 1))] [] _
        refine q_goto 4 dX11_wasMoved_38 (by decide) ?_
        change q_W _ _ _ _ _ _ _ _ _ [.ref (215), .int (xid), .int (z_b ((c4_2 || false))), .int (nI (k + 1))] [] _
        exact ih (k + 1) (c4_2 || false) (by omega) (fun r4_0 e9 => K r4_0 (by simp only [x_mo_wasMoved_4, if_neg b25]; exact e9))
      · refine q_iconst (v := 1) dX11_wasMoved_28 rfl ?_
        refine q_goto 33 dX11_wasMoved_29 (by decide) ?_
        change q_W _ _ _ _ _ _ _ _ _ _ (.int (z_b (true)) :: .int (z_b (c4_2)) :: []) _
        refine q_ior dX11_wasMoved_33 ?_
        rw [z_bor]
        refine q_istore_n dX11_wasMoved_34 (by decide) rfl ?_
        change q_W _ _ _ _ _ _ _ _ _ [.ref (215), .int (xid), .int (z_b ((c4_2 || true))), .int (nI (k))] [] _
        refine q_iinc (x := nI (k)) (v := nI (k + 1)) dX11_wasMoved_35 rfl (nI_add _ 1) rfl ?_
        change q_W _ _ _ _ _ _ _ _ _ [.ref (215), .int (xid), .int (z_b ((c4_2 || true))), .int (nI (k + 1))] [] _
        refine q_goto 4 dX11_wasMoved_38 (by decide) ?_
        change q_W _ _ _ _ _ _ _ _ _ [.ref (215), .int (xid), .int (z_b ((c4_2 || true))), .int (nI (k + 1))] [] _
        exact ih (k + 1) (c4_2 || true) (by omega) (fun r4_0 e9 => K r4_0 (by simp only [x_mo_wasMoved_4, if_pos b25]; exact e9))
def x_mo_wasMoved (al : Nat → Int32) (mn : Nat) (xid : Int32) : Bool := (let a1_0 := x_mo_wasMoved_4 al xid mn 0 false; a1_0)
set_option maxRecDepth 100000 in
set_option maxHeartbeats 8000000 in
theorem e_mo_wasMoved {g : q_G} {h : q_H} {d : Nat} {th : Int32} {al : Nat → Int32} {cg : Nat} {sv : Bool} {rs : Int32} {ac : Int32} {rj : Int32} {ro : Nat → Int32} {ad : Nat → Int32} {bf : Nat → Int32} {ln : Nat → Int32} {lz : Nat} {ip : Nat → Int32} {ty : Nat} {he : Nat} {er : Int32} {ea : Int32} {fa : Int32} {cm : Nat → Int32} {cn : Nat} {n : Nat} {mn : Nat} (smo : z_Mo h 215 th al cg sv rs ac rj ro ad bf ln lz ip ty he er ea fa cm cn n mn)  (xid : Int32)   (hd : 0 ≤ d) : q_Spec g mX11_wasMoved d 0 0 [.ref (215), .int (xid)] h (q_ret ((some (.int (z_b (x_mo_wasMoved al mn xid))))) h) := by
  have hb_mo_cg := smo.bcg
  have hb_mo_lz := smo.blz
  have hb_mo_ty := smo.bty
  have hb_mo_he := smo.bhe
  have hb_mo_cn := smo.bcn
  have hb_mo_n := smo.bn
  have hb_mo_mn := smo.bmn
  have ho_mo_cg := smo.bcg
  have ho_mo_lz := smo.blz
  have ho_mo_ty := smo.bty
  have ho_mo_he := smo.bhe
  have ho_mo_cn := smo.bcn
  have ho_mo_n := smo.bn
  have ho_mo_mn := smo.bmn
  refine q_enter (by decide +kernel) rfl rfl (Nat.le_of_ble_eq_true rfl) (fun hz => ?_)
  change q_W _ _ _ _ _ _ _ _ _ [.ref (215), .int (xid), q_u, q_u] [] _
  refine q_iconst (v := 0) dX11_wasMoved_0 rfl ?_
  refine q_istore_n dX11_wasMoved_1 (by decide) rfl ?_
  change q_W _ _ _ _ _ _ _ _ _ [.ref (215), .int (xid), .int (0), q_u] [] _
  refine q_iconst (v := 0) dX11_wasMoved_2 rfl ?_
  refine q_istore_n dX11_wasMoved_3 (by decide) rfl ?_
  change q_W _ _ _ _ _ _ _ _ _ [.ref (215), .int (xid), .int (0), .int (0)] [] _
  change q_W _ _ _ _ _ _ _ _ _ [.ref (215), .int (xid), .int (0), .int (0)] [] _
  refine l_mo_wasMoved_4 smo ho_mo_cg ho_mo_lz ho_mo_ty ho_mo_he ho_mo_cn ho_mo_n ho_mo_mn (by omega) (by omega) (by omega) mn 0 false (by omega) (fun a1_0 x1 => ?_)
  change q_W _ _ _ _ _ _ _ _ 41 [q_u, q_u, .int (z_b (a1_0)), q_u] [] _
  refine q_iload_n dX11_wasMoved_41 rfl ?_
  have hE : x_mo_wasMoved al mn xid = a1_0 := by simp only [x_mo_wasMoved, x1]
  rw [hE]
  exact q_ireturn dX11_wasMoved_42 rfl (z_b_nar _) (by omega) (by omega) ⟨rfl, rfl⟩
def x_mo_breaksOff (al : Nat → Int32) : (Nat → Int32) × (Nat) := (let y3_al := x_mo_clearsMoves (upd (upd al 3 (0)) 6 (((upd al 3 (0)) 6) + (1 : Int32))) 0; (y3_al, 0))
set_option maxRecDepth 100000 in
set_option maxHeartbeats 8000000 in
theorem e_mo_breaksOff {g : q_G} {h : q_H} {d : Nat} {th : Int32} {al : Nat → Int32} {cg : Nat} {sv : Bool} {rs : Int32} {ac : Int32} {rj : Int32} {ro : Nat → Int32} {ad : Nat → Int32} {bf : Nat → Int32} {ln : Nat → Int32} {lz : Nat} {ip : Nat → Int32} {ty : Nat} {he : Nat} {er : Int32} {ea : Int32} {fa : Int32} {cm : Nat → Int32} {cn : Nat} {n : Nat} {mn : Nat} (smo : z_Mo h 215 th al cg sv rs ac rj ro ad bf ln lz ip ty he er ea fa cm cn n mn)     (hd : 1 ≤ d) : q_Spec g mX11_breaksOff d 0 0 [.ref (215)] h (q_chg (.inl none) (fun h1 => z_Mo h1 215 th ((x_mo_breaksOff al).1) cg sv rs ac rj ro ad bf ln lz ip ty he er ea fa cm cn n ((x_mo_breaksOff al).2) ∧ q_same h h1 215 8)) := by
  have hb_mo_cg := smo.bcg
  have hb_mo_lz := smo.blz
  have hb_mo_ty := smo.bty
  have hb_mo_he := smo.bhe
  have hb_mo_cn := smo.bcn
  have hb_mo_n := smo.bn
  have hb_mo_mn := smo.bmn
  have ho_mo_cg := smo.bcg
  have ho_mo_lz := smo.blz
  have ho_mo_ty := smo.bty
  have ho_mo_he := smo.bhe
  have ho_mo_cn := smo.bcn
  have ho_mo_n := smo.bn
  have ho_mo_mn := smo.bmn
  have p0 : q_same h h 215 8 := q_same.rfl'
  refine q_enter (by decide +kernel) rfl rfl (Nat.le_of_ble_eq_true rfl) (fun hz => ?_)
  change q_W _ _ _ _ _ _ _ _ _ [.ref (215)] [] _
  refine q_aload_n (by first | assumption | omega | decide | (rw [q_R0e]; omega)) dX11_breaksOff_0 rfl ?_
  refine q_getf (k := 1) (v := .ref (216)) kC_X11 kL_X11_9 rfl (by decide) dX11_breaksOff_1 smo.c0 rfl ?_
  refine q_iconst (v := 3) dX11_breaksOff_4 rfl ?_
  refine q_iconst (v := 0) dX11_breaksOff_5 rfl ?_
  refine q_iastN (j := 3) dX11_breaksOff_6 smo.c1 (by omega) (by decide) ?_
  refine z_genW (B := fun H => z_Mo H 215 th (upd al 3 (0)) cg sv rs ac rj ro ad bf ln lz ip ty he er ea fa cm cn n 0 ∧ q_same h H 215 8) ⟨z_Mo.put1 smo (n' := n) (mn' := 0) (hbn := by first | omega | (split <;> omega)) (hbmn := by first | omega | (split <;> omega)) (hen := (upd_ne (by omega)).trans smo.en) (hemn := upd_eq), p0.trans (q_same.set (by omega) (by omega))⟩ (fun h1 hB => ?_)
  obtain ⟨smo1, p1⟩ := hB
  have hb_mo_cg := smo1.bcg
  have hb_mo_lz := smo1.blz
  have hb_mo_ty := smo1.bty
  have hb_mo_he := smo1.bhe
  have hb_mo_cn := smo1.bcn
  have hb_mo_n := smo1.bn
  refine q_aload_n (by first | assumption | omega | decide | (rw [q_R0e]; omega)) dX11_breaksOff_7 rfl ?_
  refine q_getf (k := 1) (v := .ref (216)) kC_X11 kL_X11_9 rfl (by decide) dX11_breaksOff_8 smo1.c0 rfl ?_
  refine q_bipush (v := 6) dX11_breaksOff_11 rfl ?_
  refine q_dup2 dX11_breaksOff_13 rfl rfl ?_
  refine q_ialdN (j := 6) (f := upd al 3 (0)) dX11_breaksOff_14 smo1.c1 (by omega) (by decide) ?_
  change q_W _ _ _ _ _ _ _ _ _ _ [.int ((upd al 3 (0)) 6), .int (6), .ref (216)] _
  refine q_iconst (v := 1) dX11_breaksOff_15 rfl ?_
  refine q_iadd dX11_breaksOff_16 ?_
  refine q_iastN (j := 6) dX11_breaksOff_17 smo1.c1 (by omega) (by decide) ?_
  refine z_genW (B := fun H => z_Mo H 215 th (upd (upd al 3 (0)) 6 (((upd al 3 (0)) 6) + (1 : Int32))) cg sv rs ac rj ro ad bf ln lz ip ty he er ea fa cm cn n 0 ∧ q_same h H 215 8) ⟨z_Mo.put1 smo1 (n' := n) (mn' := 0) (hbn := by first | omega | (split <;> omega)) (hbmn := by first | omega | (split <;> omega)) (hen := (upd_ne (by omega)).trans smo1.en) (hemn := (upd_ne (by omega)).trans smo1.emn), p1.trans (q_same.set (by omega) (by omega))⟩ (fun h2 hB => ?_)
  obtain ⟨smo2, p2⟩ := hB
  have hb_mo_cg := smo2.bcg
  have hb_mo_lz := smo2.blz
  have hb_mo_ty := smo2.bty
  have hb_mo_he := smo2.bhe
  have hb_mo_cn := smo2.bcn
  have hb_mo_n := smo2.bn
  refine q_aload_n (by first | assumption | omega | decide | (rw [q_R0e]; omega)) dX11_breaksOff_18 rfl ?_
  obtain ⟨y3_al, x3⟩ : ∃ z, x_mo_clearsMoves (upd (upd al 3 (0)) 6 (((upd al 3 (0)) 6) + (1 : Int32))) 0 = z := ⟨_, rfl⟩
  have e9 := e_mo_clearsMoves (g := g) (h := h2) (d := d - 1) smo2 (by omega)
  rw [x3] at e9
  refine q_invV (mc' := 0) (ms' := 0) (d' := d - 1) (as := []) dX11_breaksOff_19 kM_X11_clearsMoves kL_X11_123 kI_X11_clearsMoves kS_X11_clearsMoves rfl (kC_X11.1) smo2.c0 rfl rfl (Nat.le_of_ble_eq_true rfl) (by omega) (by decide) (by omega) (by omega) (e9) (q_kC (fun h4 hB => ?_)) q_xC
  obtain ⟨t4_0, pp4⟩ := hB
  have smo4 := t4_0
  have p4 := p2.trans (pp4.wide (by omega) (by omega))
  have hb_mo_cg := smo4.bcg
  have hb_mo_lz := smo4.blz
  have hb_mo_ty := smo4.bty
  have hb_mo_he := smo4.bhe
  have hb_mo_cn := smo4.bcn
  have hb_mo_n := smo4.bn
  change q_W _ _ _ _ _ _ _ _ 22 [.ref (215)] [] _
  have hE : x_mo_breaksOff al = (y3_al, 0) := by simp only [x_mo_breaksOff, x3]
  rw [hE]
  exact q_return dX11_breaksOff_22 rfl (by omega) (by omega) ⟨rfl, smo4, p4⟩
def x_mo_removes_40 (k : Nat) : Nat → Nat → (Nat → Int32) → (Nat → Int32)
  | 0, _, al_40 => al_40
  | r + 1, kk, al_40 => x_mo_removes_40 k r (kk + 1) (upd al_40 (7 + (3 * k) + kk) (al_40 (7 + (3 * k) + 3 + kk)))
set_option maxRecDepth 100000 in
set_option maxHeartbeats 8000000 in
theorem l_mo_removes_40 {g : q_G} {h : q_H} {d mc ms kc ks : Nat} {Q : q_O → q_H → Prop} {th : Int32} {al : Nat → Int32} {cg : Nat} {sv : Bool} {rs : Int32} {ac : Int32} {rj : Int32} {ro : Nat → Int32} {ad : Nat → Int32} {bf : Nat → Int32} {ln : Nat → Int32} {lz : Nat} {ip : Nat → Int32} {ty : Nat} {he : Nat} {er : Int32} {ea : Int32} {fa : Int32} {cm : Nat → Int32} {cn : Nat} {n : Nat} {mn : Nat} {xid : Int32} {k : Nat}   (ho_mo_cg : cg ≤ 8) (ho_mo_lz : lz ≤ 160) (ho_mo_ty : ty ≤ 60) (ho_mo_he : he ≤ 60) (ho_mo_cn : cn ≤ 61) (ho_mo_n : n ≤ 8) (ho_mo_mn : mn ≤ 12) (g1 : x_pl n al xid ≤ n) (b7 : ¬ (x_pl n al xid = 0)) (b34 : ¬ (n - 1 ≤ k))  (hd : 0 ≤ d) (hkc : kc + 0 ≤ mc) (hks : ks + 0 ≤ ms) : ∀ (r kk : Nat) (al_40 : Nat → Int32) (hh : q_H) (smo_40 : z_Mo hh 215 th al_40 cg sv rs ac rj ro ad bf ln lz ip ty he er ea fa cm cn n mn) (pH : q_same h hh 215 8) (hk_40 : kk + r = 3) (K : ∀ (r40_0 : Nat → Int32), x_mo_removes_40 k r kk al_40 = r40_0 → ∀ h2, z_Mo h2 215 th r40_0 cg sv rs ac rj ro ad bf ln lz ip ty he er ea fa cm cn n mn → q_same h h2 215 8 → q_W g mX11_removes d mc ms Q kc ks 84 [.ref (215), .int (xid), .int (nI ((x_pl n al xid) - 1)), .int (x_mo_attacks al n), .int (nI (n - 1)), .int (nI (k)), q_u] [] h2), q_W g mX11_removes d mc ms Q kc ks 40 [.ref (215), .int (xid), .int (nI ((x_pl n al xid) - 1)), .int (x_mo_attacks al n), .int (nI (n - 1)), .int (nI (k)), .int (nI (kk))] [] hh := by
  intro r
  induction r with
  | zero =>
    intro kk al_40 hh smo_40 pH hk_40 K
    have hb_mo_cg := smo_40.bcg
    have hb_mo_lz := smo_40.blz
    have hb_mo_ty := smo_40.bty
    have hb_mo_he := smo_40.bhe
    have hb_mo_cn := smo_40.bcn
    have hb_mo_n := smo_40.bn
    have hb_mo_mn := smo_40.bmn
    refine q_iload dX11_removes_40 rfl ?_
    refine q_iconst (v := 3) dX11_removes_42 rfl ?_
    refine q_icmp_ge 84 dX11_removes_43 (by decide) (fun b43 => ?_) (fun b43 => ?_)
    · have b43 := (nI_leI (a := 3) (b := kk) (by omega) (by omega)).mp b43
      refine q_forget 6 ?_
      change q_W _ _ _ _ _ _ _ _ _ [.ref (215), .int (xid), .int (nI ((x_pl n al xid) - 1)), .int (x_mo_attacks al n), .int (nI (n - 1)), .int (nI (k)), q_u] [] _
      exact K al_40 (by simp only [x_mo_removes_40]) hh smo_40 pH
    · have b43 : ¬ (3 ≤ kk) := fun q => b43 ((nI_leI (a := 3) (b := kk) (by omega) (by omega)).mpr q)
      exact absurd b43 (by omega)
  | succ r ih =>
    intro kk al_40 hh smo_40 pH hk_40 K
    have hb_mo_cg := smo_40.bcg
    have hb_mo_lz := smo_40.blz
    have hb_mo_ty := smo_40.bty
    have hb_mo_he := smo_40.bhe
    have hb_mo_cn := smo_40.bcn
    have hb_mo_n := smo_40.bn
    have hb_mo_mn := smo_40.bmn
    refine q_iload dX11_removes_40 rfl ?_
    refine q_iconst (v := 3) dX11_removes_42 rfl ?_
    refine q_icmp_ge 84 dX11_removes_43 (by decide) (fun b43 => ?_) (fun b43 => ?_)
    · have b43 := (nI_leI (a := 3) (b := kk) (by omega) (by omega)).mp b43
      exact absurd b43 (by omega)
    · have b43 : ¬ (3 ≤ kk) := fun q => b43 ((nI_leI (a := 3) (b := kk) (by omega) (by omega)).mpr q)
      refine q_aload_n (by first | assumption | omega | decide | (rw [q_R0e]; omega)) dX11_removes_46 rfl ?_
      refine q_getf (k := 1) (v := .ref (216)) kC_X11 kL_X11_9 rfl (by decide) dX11_removes_47 smo_40.c0 rfl ?_
      refine q_bipush (v := 7) dX11_removes_50 rfl ?_
      refine q_iconst (v := 3) dX11_removes_52 rfl ?_
      refine q_iload dX11_removes_53 rfl ?_
      refine q_imulN (a := 3) (b := k) dX11_removes_55 ?_
      change q_W _ _ _ _ _ _ _ _ _ _ [.int (nI (3 * k)), .int (7), .ref (216)] _
      refine q_iaddN (a := 7) (b := 3 * k) dX11_removes_56 ?_
      change q_W _ _ _ _ _ _ _ _ _ _ [.int (nI (7 + (3 * k))), .ref (216)] _
      refine q_iload dX11_removes_57 rfl ?_
      refine q_iaddN (a := 7 + (3 * k)) (b := kk) dX11_removes_59 ?_
      change q_W _ _ _ _ _ _ _ _ _ _ [.int (nI (7 + (3 * k) + kk)), .ref (216)] _
      refine q_aload_n (by first | assumption | omega | decide | (rw [q_R0e]; omega)) dX11_removes_60 rfl ?_
      refine q_getf (k := 1) (v := .ref (216)) kC_X11 kL_X11_9 rfl (by decide) dX11_removes_61 smo_40.c0 rfl ?_
      refine q_bipush (v := 7) dX11_removes_64 rfl ?_
      refine q_iconst (v := 3) dX11_removes_66 rfl ?_
      refine q_iload dX11_removes_67 rfl ?_
      refine q_imulN (a := 3) (b := k) dX11_removes_69 ?_
      change q_W _ _ _ _ _ _ _ _ _ _ [.int (nI (3 * k)), .int (7), .ref (216), .int (nI (7 + (3 * k) + kk)), .ref (216)] _
      refine q_iaddN (a := 7) (b := 3 * k) dX11_removes_70 ?_
      change q_W _ _ _ _ _ _ _ _ _ _ [.int (nI (7 + (3 * k))), .ref (216), .int (nI (7 + (3 * k) + kk)), .ref (216)] _
      refine q_iconst (v := 3) dX11_removes_71 rfl ?_
      refine q_iaddN (a := 7 + (3 * k)) (b := 3) dX11_removes_72 ?_
      change q_W _ _ _ _ _ _ _ _ _ _ [.int (nI (7 + (3 * k) + 3)), .ref (216), .int (nI (7 + (3 * k) + kk)), .ref (216)] _
      refine q_iload dX11_removes_73 rfl ?_
      refine q_iaddN (a := 7 + (3 * k) + 3) (b := kk) dX11_removes_75 ?_
      change q_W _ _ _ _ _ _ _ _ _ _ [.int (nI (7 + (3 * k) + 3 + kk)), .ref (216), .int (nI (7 + (3 * k) + kk)), .ref (216)] _
      refine q_ialdN (j := 7 + (3 * k) + 3 + kk) (f := al_40) dX11_removes_76 smo_40.c1 (by omega) (by decide) ?_
      change q_W _ _ _ _ _ _ _ _ _ _ [.int (al_40 (7 + (3 * k) + 3 + kk)), .int (nI (7 + (3 * k) + kk)), .ref (216)] _
      refine q_iastN (j := 7 + (3 * k) + kk) dX11_removes_77 smo_40.c1 (by omega) (by decide) ?_
      refine z_genW (B := fun H => z_Mo H 215 th (upd al_40 (7 + (3 * k) + kk) (al_40 (7 + (3 * k) + 3 + kk))) cg sv rs ac rj ro ad bf ln lz ip ty he er ea fa cm cn n mn ∧ q_same h H 215 8) ⟨z_Mo.put1 smo_40 (n' := n) (mn' := mn) (hbn := by first | omega | (split <;> omega)) (hbmn := by first | omega | (split <;> omega)) (hen := (upd_ne (by omega)).trans smo_40.en) (hemn := (upd_ne (by omega)).trans smo_40.emn), pH.trans (q_same.set (by omega) (by omega))⟩ (fun h2 hB => ?_)
      obtain ⟨smo2, p2⟩ := hB
      have hb_mo_cg := smo2.bcg
      have hb_mo_lz := smo2.blz
      have hb_mo_ty := smo2.bty
      have hb_mo_he := smo2.bhe
      have hb_mo_cn := smo2.bcn
      have hb_mo_n := smo2.bn
      have hb_mo_mn := smo2.bmn
      refine q_iinc (x := nI (kk)) (v := nI (kk + 1)) dX11_removes_78 rfl (nI_add _ 1) rfl ?_
      change q_W _ _ _ _ _ _ _ _ _ [.ref (215), .int (xid), .int (nI ((x_pl n al xid) - 1)), .int (x_mo_attacks al n), .int (nI (n - 1)), .int (nI (k)), .int (nI (kk + 1))] [] _
      refine q_goto 40 dX11_removes_81 (by decide) ?_
      change q_W _ _ _ _ _ _ _ _ _ [.ref (215), .int (xid), .int (nI ((x_pl n al xid) - 1)), .int (x_mo_attacks al n), .int (nI (n - 1)), .int (nI (k)), .int (nI (kk + 1))] [] _
      exact ih (kk + 1) (upd al_40 (7 + (3 * k) + kk) (al_40 (7 + (3 * k) + 3 + kk))) h2 smo2 p2 (by omega) (fun r40_0 e9 => K r40_0 (by simp only [x_mo_removes_40]; exact e9))
def x_mo_removes_30  : Nat → Nat → (Nat → Int32) → (Nat → Int32)
  | 0, _, al_30 => al_30
  | r + 1, k, al_30 => (let a3_0 := x_mo_removes_40 k 3 0 al_30; x_mo_removes_30  r (k + 1) (upd a3_0 (31 + k) (a3_0 (31 + k + 1))))
set_option maxRecDepth 100000 in
set_option maxHeartbeats 8000000 in
theorem l_mo_removes_30 {g : q_G} {h : q_H} {d mc ms kc ks : Nat} {Q : q_O → q_H → Prop} {th : Int32} {al : Nat → Int32} {cg : Nat} {sv : Bool} {rs : Int32} {ac : Int32} {rj : Int32} {ro : Nat → Int32} {ad : Nat → Int32} {bf : Nat → Int32} {ln : Nat → Int32} {lz : Nat} {ip : Nat → Int32} {ty : Nat} {he : Nat} {er : Int32} {ea : Int32} {fa : Int32} {cm : Nat → Int32} {cn : Nat} {n : Nat} {mn : Nat} {xid : Int32}   (ho_mo_cg : cg ≤ 8) (ho_mo_lz : lz ≤ 160) (ho_mo_ty : ty ≤ 60) (ho_mo_he : he ≤ 60) (ho_mo_cn : cn ≤ 61) (ho_mo_n : n ≤ 8) (ho_mo_mn : mn ≤ 12) (g1 : x_pl n al xid ≤ n) (b7 : ¬ (x_pl n al xid = 0))  (hd : 0 ≤ d) (hkc : kc + 0 ≤ mc) (hks : ks + 0 ≤ ms) : ∀ (r k : Nat) (al_30 : Nat → Int32) (hh : q_H) (smo_30 : z_Mo hh 215 th al_30 cg sv rs ac rj ro ad bf ln lz ip ty he er ea fa cm cn n mn) (pH : q_same h hh 215 8) (hk_30 : k + r = n - 1) (K : ∀ (r30_0 : Nat → Int32), x_mo_removes_30  r k al_30 = r30_0 → ∀ h2, z_Mo h2 215 th r30_0 cg sv rs ac rj ro ad bf ln lz ip ty he er ea fa cm cn n mn → q_same h h2 215 8 → q_W g mX11_removes d mc ms Q kc ks 112 [.ref (215), .int (xid), .int (nI ((x_pl n al xid) - 1)), .int (x_mo_attacks al n), .int (nI (n - 1)), q_u, q_u] [] h2), q_W g mX11_removes d mc ms Q kc ks 30 [.ref (215), .int (xid), .int (nI ((x_pl n al xid) - 1)), .int (x_mo_attacks al n), .int (nI (n - 1)), .int (nI (k)), q_u] [] hh := by
  intro r
  induction r with
  | zero =>
    intro k al_30 hh smo_30 pH hk_30 K
    have hb_mo_cg := smo_30.bcg
    have hb_mo_lz := smo_30.blz
    have hb_mo_ty := smo_30.bty
    have hb_mo_he := smo_30.bhe
    have hb_mo_cn := smo_30.bcn
    have hb_mo_n := smo_30.bn
    have hb_mo_mn := smo_30.bmn
    refine q_iload dX11_removes_30 rfl ?_
    refine q_iload dX11_removes_32 rfl ?_
    refine q_icmp_ge 112 dX11_removes_34 (by decide) (fun b34 => ?_) (fun b34 => ?_)
    · have b34 := (nI_leI (a := n - 1) (b := k) (by omega) (by omega)).mp b34
      refine q_forget 5 ?_
      change q_W _ _ _ _ _ _ _ _ _ [.ref (215), .int (xid), .int (nI ((x_pl n al xid) - 1)), .int (x_mo_attacks al n), .int (nI (n - 1)), q_u, q_u] [] _
      exact K al_30 (by simp only [x_mo_removes_30]) hh smo_30 pH
    · have b34 : ¬ (n - 1 ≤ k) := fun q => b34 ((nI_leI (a := n - 1) (b := k) (by omega) (by omega)).mpr q)
      exact absurd b34 (by omega)
  | succ r ih =>
    intro k al_30 hh smo_30 pH hk_30 K
    have hb_mo_cg := smo_30.bcg
    have hb_mo_lz := smo_30.blz
    have hb_mo_ty := smo_30.bty
    have hb_mo_he := smo_30.bhe
    have hb_mo_cn := smo_30.bcn
    have hb_mo_n := smo_30.bn
    have hb_mo_mn := smo_30.bmn
    refine q_iload dX11_removes_30 rfl ?_
    refine q_iload dX11_removes_32 rfl ?_
    refine q_icmp_ge 112 dX11_removes_34 (by decide) (fun b34 => ?_) (fun b34 => ?_)
    · have b34 := (nI_leI (a := n - 1) (b := k) (by omega) (by omega)).mp b34
      exact absurd b34 (by omega)
    · have b34 : ¬ (n - 1 ≤ k) := fun q => b34 ((nI_leI (a := n - 1) (b := k) (by omega) (by omega)).mpr q)
      refine q_iconst (v := 0) dX11_removes_37 rfl ?_
      refine q_istore dX11_removes_38 (by decide) rfl ?_
      change q_W _ _ _ _ _ _ _ _ _ [.ref (215), .int (xid), .int (nI ((x_pl n al xid) - 1)), .int (x_mo_attacks al n), .int (nI (n - 1)), .int (nI (k)), .int (0)] [] _
      change q_W _ _ _ _ _ _ _ _ _ [.ref (215), .int (xid), .int (nI ((x_pl n al xid) - 1)), .int (x_mo_attacks al n), .int (nI (n - 1)), .int (nI (k)), .int (0)] [] _
      refine l_mo_removes_40 ho_mo_cg ho_mo_lz ho_mo_ty ho_mo_he ho_mo_cn ho_mo_n ho_mo_mn g1 b7 b34 (by omega) (by omega) (by omega) 3 0 al_30 hh smo_30 pH (by omega) (fun a3_0 x3 h4 smo4 p4 => ?_)
      have hb_mo_cg := smo4.bcg
      have hb_mo_lz := smo4.blz
      have hb_mo_ty := smo4.bty
      have hb_mo_he := smo4.bhe
      have hb_mo_cn := smo4.bcn
      have hb_mo_n := smo4.bn
      have hb_mo_mn := smo4.bmn
      change q_W _ _ _ _ _ _ _ _ 84 [.ref (215), .int (xid), .int (nI ((x_pl n al xid) - 1)), .int (x_mo_attacks al n), .int (nI (n - 1)), .int (nI (k)), q_u] [] _
      refine q_aload_n (by first | assumption | omega | decide | (rw [q_R0e]; omega)) dX11_removes_84 rfl ?_
      refine q_getf (k := 1) (v := .ref (216)) kC_X11 kL_X11_9 rfl (by decide) dX11_removes_85 smo4.c0 rfl ?_
      refine q_bipush (v := 31) dX11_removes_88 rfl ?_
      refine q_iload dX11_removes_90 rfl ?_
      refine q_iaddN (a := 31) (b := k) dX11_removes_92 ?_
      change q_W _ _ _ _ _ _ _ _ _ _ [.int (nI (31 + k)), .ref (216)] _
      refine q_aload_n (by first | assumption | omega | decide | (rw [q_R0e]; omega)) dX11_removes_93 rfl ?_
      refine q_getf (k := 1) (v := .ref (216)) kC_X11 kL_X11_9 rfl (by decide) dX11_removes_94 smo4.c0 rfl ?_
      refine q_bipush (v := 31) dX11_removes_97 rfl ?_
      refine q_iload dX11_removes_99 rfl ?_
      refine q_iaddN (a := 31) (b := k) dX11_removes_101 ?_
      change q_W _ _ _ _ _ _ _ _ _ _ [.int (nI (31 + k)), .ref (216), .int (nI (31 + k)), .ref (216)] _
      refine q_iconst (v := 1) dX11_removes_102 rfl ?_
      refine q_iaddN (a := 31 + k) (b := 1) dX11_removes_103 ?_
      change q_W _ _ _ _ _ _ _ _ _ _ [.int (nI (31 + k + 1)), .ref (216), .int (nI (31 + k)), .ref (216)] _
      refine q_ialdN (j := 31 + k + 1) (f := a3_0) dX11_removes_104 smo4.c1 (by omega) (by decide) ?_
      change q_W _ _ _ _ _ _ _ _ _ _ [.int (a3_0 (31 + k + 1)), .int (nI (31 + k)), .ref (216)] _
      refine q_iastN (j := 31 + k) dX11_removes_105 smo4.c1 (by omega) (by decide) ?_
      refine z_genW (B := fun H => z_Mo H 215 th (upd a3_0 (31 + k) (a3_0 (31 + k + 1))) cg sv rs ac rj ro ad bf ln lz ip ty he er ea fa cm cn n mn ∧ q_same h H 215 8) ⟨z_Mo.put1 smo4 (n' := n) (mn' := mn) (hbn := by first | omega | (split <;> omega)) (hbmn := by first | omega | (split <;> omega)) (hen := (upd_ne (by omega)).trans smo4.en) (hemn := (upd_ne (by omega)).trans smo4.emn), p4.trans (q_same.set (by omega) (by omega))⟩ (fun h5 hB => ?_)
      obtain ⟨smo5, p5⟩ := hB
      have hb_mo_cg := smo5.bcg
      have hb_mo_lz := smo5.blz
      have hb_mo_ty := smo5.bty
      have hb_mo_he := smo5.bhe
      have hb_mo_cn := smo5.bcn
      have hb_mo_n := smo5.bn
      have hb_mo_mn := smo5.bmn
      refine q_iinc (x := nI (k)) (v := nI (k + 1)) dX11_removes_106 rfl (nI_add _ 1) rfl ?_
      change q_W _ _ _ _ _ _ _ _ _ [.ref (215), .int (xid), .int (nI ((x_pl n al xid) - 1)), .int (x_mo_attacks al n), .int (nI (n - 1)), .int (nI (k + 1)), q_u] [] _
      refine q_goto 30 dX11_removes_109 (by decide) ?_
      change q_W _ _ _ _ _ _ _ _ _ [.ref (215), .int (xid), .int (nI ((x_pl n al xid) - 1)), .int (x_mo_attacks al n), .int (nI (n - 1)), .int (nI (k + 1)), q_u] [] _
      exact ih (k + 1) (upd a3_0 (31 + k) (a3_0 (31 + k + 1))) h5 smo5 p5 (by omega) (fun r30_0 e9 => K r30_0 (by simp only [x_mo_removes_30, x3]; exact e9))
def x_mo_removes_115 (n : Nat) : Nat → Nat → (Nat → Int32) → (Nat → Int32)
  | 0, _, al_115 => al_115
  | r + 1, kkk, al_115 => x_mo_removes_115 n r (kkk + 1) (upd al_115 (7 + (3 * (n - 1)) + kkk) (0))
set_option maxRecDepth 100000 in
set_option maxHeartbeats 8000000 in
theorem l_mo_removes_115 {g : q_G} {h : q_H} {d mc ms kc ks : Nat} {Q : q_O → q_H → Prop} {th : Int32} {al : Nat → Int32} {cg : Nat} {sv : Bool} {rs : Int32} {ac : Int32} {rj : Int32} {ro : Nat → Int32} {ad : Nat → Int32} {bf : Nat → Int32} {ln : Nat → Int32} {lz : Nat} {ip : Nat → Int32} {ty : Nat} {he : Nat} {er : Int32} {ea : Int32} {fa : Int32} {cm : Nat → Int32} {cn : Nat} {n : Nat} {mn : Nat} {xid : Int32}   (ho_mo_cg : cg ≤ 8) (ho_mo_lz : lz ≤ 160) (ho_mo_ty : ty ≤ 60) (ho_mo_he : he ≤ 60) (ho_mo_cn : cn ≤ 61) (ho_mo_n : n ≤ 8) (ho_mo_mn : mn ≤ 12) (g1 : x_pl n al xid ≤ n) (b7 : ¬ (x_pl n al xid = 0))  (hd : 0 ≤ d) (hkc : kc + 0 ≤ mc) (hks : ks + 0 ≤ ms) : ∀ (r kkk : Nat) (al_115 : Nat → Int32) (hh : q_H) (smo_115 : z_Mo hh 215 th al_115 cg sv rs ac rj ro ad bf ln lz ip ty he er ea fa cm cn n mn) (pH : q_same h hh 215 8) (hk_115 : kkk + r = 3) (K : ∀ (r115_0 : Nat → Int32), x_mo_removes_115 n r kkk al_115 = r115_0 → ∀ h2, z_Mo h2 215 th r115_0 cg sv rs ac rj ro ad bf ln lz ip ty he er ea fa cm cn n mn → q_same h h2 215 8 → q_W g mX11_removes d mc ms Q kc ks 143 [.ref (215), .int (xid), .int (nI ((x_pl n al xid) - 1)), .int (x_mo_attacks al n), .int (nI (n - 1)), q_u, q_u] [] h2), q_W g mX11_removes d mc ms Q kc ks 115 [.ref (215), .int (xid), .int (nI ((x_pl n al xid) - 1)), .int (x_mo_attacks al n), .int (nI (n - 1)), .int (nI (kkk)), q_u] [] hh := by
  intro r
  induction r with
  | zero =>
    intro kkk al_115 hh smo_115 pH hk_115 K
    have hb_mo_cg := smo_115.bcg
    have hb_mo_lz := smo_115.blz
    have hb_mo_ty := smo_115.bty
    have hb_mo_he := smo_115.bhe
    have hb_mo_cn := smo_115.bcn
    have hb_mo_n := smo_115.bn
    have hb_mo_mn := smo_115.bmn
    refine q_iload dX11_removes_115 rfl ?_
    refine q_iconst (v := 3) dX11_removes_117 rfl ?_
    refine q_icmp_ge 143 dX11_removes_118 (by decide) (fun b118 => ?_) (fun b118 => ?_)
    · have b118 := (nI_leI (a := 3) (b := kkk) (by omega) (by omega)).mp b118
      refine q_forget 5 ?_
      change q_W _ _ _ _ _ _ _ _ _ [.ref (215), .int (xid), .int (nI ((x_pl n al xid) - 1)), .int (x_mo_attacks al n), .int (nI (n - 1)), q_u, q_u] [] _
      exact K al_115 (by simp only [x_mo_removes_115]) hh smo_115 pH
    · have b118 : ¬ (3 ≤ kkk) := fun q => b118 ((nI_leI (a := 3) (b := kkk) (by omega) (by omega)).mpr q)
      exact absurd b118 (by omega)
  | succ r ih =>
    intro kkk al_115 hh smo_115 pH hk_115 K
    have hb_mo_cg := smo_115.bcg
    have hb_mo_lz := smo_115.blz
    have hb_mo_ty := smo_115.bty
    have hb_mo_he := smo_115.bhe
    have hb_mo_cn := smo_115.bcn
    have hb_mo_n := smo_115.bn
    have hb_mo_mn := smo_115.bmn
    refine q_iload dX11_removes_115 rfl ?_
    refine q_iconst (v := 3) dX11_removes_117 rfl ?_
    refine q_icmp_ge 143 dX11_removes_118 (by decide) (fun b118 => ?_) (fun b118 => ?_)
    · have b118 := (nI_leI (a := 3) (b := kkk) (by omega) (by omega)).mp b118
      exact absurd b118 (by omega)
    · have b118 : ¬ (3 ≤ kkk) := fun q => b118 ((nI_leI (a := 3) (b := kkk) (by omega) (by omega)).mpr q)
      refine q_aload_n (by first | assumption | omega | decide | (rw [q_R0e]; omega)) dX11_removes_121 rfl ?_
      refine q_getf (k := 1) (v := .ref (216)) kC_X11 kL_X11_9 rfl (by decide) dX11_removes_122 smo_115.c0 rfl ?_
      refine q_bipush (v := 7) dX11_removes_125 rfl ?_
      refine q_iconst (v := 3) dX11_removes_127 rfl ?_
      refine q_iload dX11_removes_128 rfl ?_
      refine q_imulN (a := 3) (b := n - 1) dX11_removes_130 ?_
      change q_W _ _ _ _ _ _ _ _ _ _ [.int (nI (3 * (n - 1))), .int (7), .ref (216)] _
      refine q_iaddN (a := 7) (b := 3 * (n - 1)) dX11_removes_131 ?_
      change q_W _ _ _ _ _ _ _ _ _ _ [.int (nI (7 + (3 * (n - 1)))), .ref (216)] _
      refine q_iload dX11_removes_132 rfl ?_
      refine q_iaddN (a := 7 + (3 * (n - 1))) (b := kkk) dX11_removes_134 ?_
      change q_W _ _ _ _ _ _ _ _ _ _ [.int (nI (7 + (3 * (n - 1)) + kkk)), .ref (216)] _
      refine q_iconst (v := 0) dX11_removes_135 rfl ?_
      refine q_iastN (j := 7 + (3 * (n - 1)) + kkk) dX11_removes_136 smo_115.c1 (by omega) (by decide) ?_
      refine z_genW (B := fun H => z_Mo H 215 th (upd al_115 (7 + (3 * (n - 1)) + kkk) (0)) cg sv rs ac rj ro ad bf ln lz ip ty he er ea fa cm cn n mn ∧ q_same h H 215 8) ⟨z_Mo.put1 smo_115 (n' := n) (mn' := mn) (hbn := by first | omega | (split <;> omega)) (hbmn := by first | omega | (split <;> omega)) (hen := (upd_ne (by omega)).trans smo_115.en) (hemn := (upd_ne (by omega)).trans smo_115.emn), pH.trans (q_same.set (by omega) (by omega))⟩ (fun h8 hB => ?_)
      obtain ⟨smo8, p8⟩ := hB
      have hb_mo_cg := smo8.bcg
      have hb_mo_lz := smo8.blz
      have hb_mo_ty := smo8.bty
      have hb_mo_he := smo8.bhe
      have hb_mo_cn := smo8.bcn
      have hb_mo_n := smo8.bn
      have hb_mo_mn := smo8.bmn
      refine q_iinc (x := nI (kkk)) (v := nI (kkk + 1)) dX11_removes_137 rfl (nI_add _ 1) rfl ?_
      change q_W _ _ _ _ _ _ _ _ _ [.ref (215), .int (xid), .int (nI ((x_pl n al xid) - 1)), .int (x_mo_attacks al n), .int (nI (n - 1)), .int (nI (kkk + 1)), q_u] [] _
      refine q_goto 115 dX11_removes_140 (by decide) ?_
      change q_W _ _ _ _ _ _ _ _ _ [.ref (215), .int (xid), .int (nI ((x_pl n al xid) - 1)), .int (x_mo_attacks al n), .int (nI (n - 1)), .int (nI (kkk + 1)), q_u] [] _
      exact ih (kkk + 1) (upd al_115 (7 + (3 * (n - 1)) + kkk) (0)) h8 smo8 p8 (by omega) (fun r115_0 e9 => K r115_0 (by simp only [x_mo_removes_115]; exact e9))
def x_mo_removes_165 (al : Nat → Int32) (n : Nat) (xid : Int32) : Nat → Nat → (Nat → Int32) → (Nat → Int32)
  | 0, _, al_165 => al_165
  | r + 1, kkkk, al_165 => x_mo_removes_165 al n xid r (kkkk + 1) (upd al_165 (31 + kkkk) (x_mo_without (al_165 (31 + kkkk)) ((x_pl n al xid) - 1)))
set_option maxRecDepth 100000 in
set_option maxHeartbeats 8000000 in
theorem l_mo_removes_165 {g : q_G} {h : q_H} {d mc ms kc ks : Nat} {Q : q_O → q_H → Prop} {th : Int32} {al : Nat → Int32} {cg : Nat} {sv : Bool} {rs : Int32} {ac : Int32} {rj : Int32} {ro : Nat → Int32} {ad : Nat → Int32} {bf : Nat → Int32} {ln : Nat → Int32} {lz : Nat} {ip : Nat → Int32} {ty : Nat} {he : Nat} {er : Int32} {ea : Int32} {fa : Int32} {cm : Nat → Int32} {cn : Nat} {n : Nat} {mn : Nat} {xid : Int32}   (ho_mo_cg : cg ≤ 8) (ho_mo_lz : lz ≤ 160) (ho_mo_ty : ty ≤ 60) (ho_mo_he : he ≤ 60) (ho_mo_cn : cn ≤ 61) (ho_mo_n : n ≤ 8) (ho_mo_mn : mn ≤ 12) (g1 : x_pl n al xid ≤ n) (b7 : ¬ (x_pl n al xid = 0))  (hd : 1 ≤ d) (hkc : kc + 0 ≤ mc) (hks : ks + 0 ≤ ms) : ∀ (r kkkk : Nat) (al_165 : Nat → Int32) (hh : q_H) (smo_165 : z_Mo hh 215 th al_165 cg sv rs ac rj ro ad bf ln lz ip ty he er ea fa cm cn (n - 1) mn) (pH : q_same h hh 215 8) (hk_165 : kkkk + r = n - 1) (K : ∀ (r165_0 : Nat → Int32), x_mo_removes_165 al n xid r kkkk al_165 = r165_0 → ∀ h2, z_Mo h2 215 th r165_0 cg sv rs ac rj ro ad bf ln lz ip ty he er ea fa cm cn (n - 1) mn → q_same h h2 215 8 → q_W g mX11_removes d mc ms Q kc ks 202 [.ref (215), .int (xid), q_u, .int (x_mo_attacks al n), q_u, q_u, q_u] [] h2), q_W g mX11_removes d mc ms Q kc ks 165 [.ref (215), .int (xid), .int (nI ((x_pl n al xid) - 1)), .int (x_mo_attacks al n), .int (nI (n - 1)), .int (nI (kkkk)), q_u] [] hh := by
  intro r
  induction r with
  | zero =>
    intro kkkk al_165 hh smo_165 pH hk_165 K
    have hb_mo_cg := smo_165.bcg
    have hb_mo_lz := smo_165.blz
    have hb_mo_ty := smo_165.bty
    have hb_mo_he := smo_165.bhe
    have hb_mo_cn := smo_165.bcn
    have hb_mo_n := smo_165.bn
    have hb_mo_mn := smo_165.bmn
    refine q_iload dX11_removes_165 rfl ?_
    refine q_iload dX11_removes_167 rfl ?_
    refine q_icmp_ge 202 dX11_removes_169 (by decide) (fun b169 => ?_) (fun b169 => ?_)
    · have b169 := (nI_leI (a := n - 1) (b := kkkk) (by omega) (by omega)).mp b169
      refine q_forget 2 ?_
      refine q_forget 4 ?_
      refine q_forget 5 ?_
      change q_W _ _ _ _ _ _ _ _ _ [.ref (215), .int (xid), q_u, .int (x_mo_attacks al n), q_u, q_u, q_u] [] _
      exact K al_165 (by simp only [x_mo_removes_165]) hh smo_165 pH
    · have b169 : ¬ (n - 1 ≤ kkkk) := fun q => b169 ((nI_leI (a := n - 1) (b := kkkk) (by omega) (by omega)).mpr q)
      exact absurd b169 (by omega)
  | succ r ih =>
    intro kkkk al_165 hh smo_165 pH hk_165 K
    have hb_mo_cg := smo_165.bcg
    have hb_mo_lz := smo_165.blz
    have hb_mo_ty := smo_165.bty
    have hb_mo_he := smo_165.bhe
    have hb_mo_cn := smo_165.bcn
    have hb_mo_n := smo_165.bn
    have hb_mo_mn := smo_165.bmn
    refine q_iload dX11_removes_165 rfl ?_
    refine q_iload dX11_removes_167 rfl ?_
    refine q_icmp_ge 202 dX11_removes_169 (by decide) (fun b169 => ?_) (fun b169 => ?_)
    · have b169 := (nI_leI (a := n - 1) (b := kkkk) (by omega) (by omega)).mp b169
      exact absurd b169 (by omega)
    · have b169 : ¬ (n - 1 ≤ kkkk) := fun q => b169 ((nI_leI (a := n - 1) (b := kkkk) (by omega) (by omega)).mpr q)
      refine q_aload_n (by first | assumption | omega | decide | (rw [q_R0e]; omega)) dX11_removes_172 rfl ?_
      refine q_getf (k := 1) (v := .ref (216)) kC_X11 kL_X11_9 rfl (by decide) dX11_removes_173 smo_165.c0 rfl ?_
      refine q_bipush (v := 31) dX11_removes_176 rfl ?_
      refine q_iload dX11_removes_178 rfl ?_
      refine q_iaddN (a := 31) (b := kkkk) dX11_removes_180 ?_
      change q_W _ _ _ _ _ _ _ _ _ _ [.int (nI (31 + kkkk)), .ref (216)] _
      refine q_aload_n (by first | assumption | omega | decide | (rw [q_R0e]; omega)) dX11_removes_181 rfl ?_
      refine q_getf (k := 1) (v := .ref (216)) kC_X11 kL_X11_9 rfl (by decide) dX11_removes_182 smo_165.c0 rfl ?_
      refine q_bipush (v := 31) dX11_removes_185 rfl ?_
      refine q_iload dX11_removes_187 rfl ?_
      refine q_iaddN (a := 31) (b := kkkk) dX11_removes_189 ?_
      change q_W _ _ _ _ _ _ _ _ _ _ [.int (nI (31 + kkkk)), .ref (216), .int (nI (31 + kkkk)), .ref (216)] _
      refine q_ialdN (j := 31 + kkkk) (f := al_165) dX11_removes_190 smo_165.c1 (by omega) (by decide) ?_
      change q_W _ _ _ _ _ _ _ _ _ _ [.int (al_165 (31 + kkkk)), .int (nI (31 + kkkk)), .ref (216)] _
      refine q_iload_n dX11_removes_191 rfl ?_
      refine q_invS (mc' := 0) (ms' := 0) (d' := d - 1) (as := [.int (al_165 (31 + kkkk)), .int (nI ((x_pl n al xid) - 1))]) dX11_removes_192 kM_X11_without kL_X11_129 kT_X11_without rfl rfl rfl (Nat.le_of_ble_eq_true rfl) (by omega) (by decide) (by omega) (by omega) (e_mo_without (d := d - 1) (al_165 (31 + kkkk)) ((x_pl n al xid) - 1) (by omega) (by omega)) (q_kR ?_) q_xR
      change q_W _ _ _ _ _ _ _ _ 195 [.ref (215), .int (xid), .int (nI ((x_pl n al xid) - 1)), .int (x_mo_attacks al n), .int (nI (n - 1)), .int (nI (kkkk)), q_u] [.int (x_mo_without (al_165 (31 + kkkk)) ((x_pl n al xid) - 1)), .int (nI (31 + kkkk)), .ref (216)] _
      refine q_iastN (j := 31 + kkkk) dX11_removes_195 smo_165.c1 (by omega) (by decide) ?_
      refine z_genW (B := fun H => z_Mo H 215 th (upd al_165 (31 + kkkk) (x_mo_without (al_165 (31 + kkkk)) ((x_pl n al xid) - 1))) cg sv rs ac rj ro ad bf ln lz ip ty he er ea fa cm cn (n - 1) mn ∧ q_same h H 215 8) ⟨z_Mo.put1 smo_165 (n' := n - 1) (mn' := mn) (hbn := by first | omega | (split <;> omega)) (hbmn := by first | omega | (split <;> omega)) (hen := (upd_ne (by omega)).trans smo_165.en) (hemn := (upd_ne (by omega)).trans smo_165.emn), pH.trans (q_same.set (by omega) (by omega))⟩ (fun h13 hB => ?_)
      obtain ⟨smo13, p13⟩ := hB
      have hb_mo_cg := smo13.bcg
      have hb_mo_lz := smo13.blz
      have hb_mo_ty := smo13.bty
      have hb_mo_he := smo13.bhe
      have hb_mo_cn := smo13.bcn
      have hb_mo_n := smo13.bn
      have hb_mo_mn := smo13.bmn
      refine q_iinc (x := nI (kkkk)) (v := nI (kkkk + 1)) dX11_removes_196 rfl (nI_add _ 1) rfl ?_
      change q_W _ _ _ _ _ _ _ _ _ [.ref (215), .int (xid), .int (nI ((x_pl n al xid) - 1)), .int (x_mo_attacks al n), .int (nI (n - 1)), .int (nI (kkkk + 1)), q_u] [] _
      refine q_goto 165 dX11_removes_199 (by decide) ?_
      change q_W _ _ _ _ _ _ _ _ _ [.ref (215), .int (xid), .int (nI ((x_pl n al xid) - 1)), .int (x_mo_attacks al n), .int (nI (n - 1)), .int (nI (kkkk + 1)), q_u] [] _
      exact ih (kkkk + 1) (upd al_165 (31 + kkkk) (x_mo_without (al_165 (31 + kkkk)) ((x_pl n al xid) - 1))) h13 smo13 p13 (by omega) (fun r165_0 e9 => K r165_0 (by simp only [x_mo_removes_165]; exact e9))
def x_mo_removes (al : Nat → Int32) (rs : Int32) (n : Nat) (mn : Nat) (xid : Int32) : (Int32) × (Nat → Int32) × (Int32) × (Nat) × (Nat) := (if x_pl n al xid = 0 then (3, al, rs, n, mn) else (let a6_0 := x_mo_removes_30 (n - 1 - ((x_pl n al xid) - 1)) ((x_pl n al xid) - 1) al; (let a9_0 := x_mo_removes_115 n 3 0 a6_0; (let a14_0 := x_mo_removes_165 al n xid (n - 1) 0 (upd (upd a9_0 (31 + (n - 1)) (0)) 0 (nI (n - 1))); (if x_mo_wasMoved a14_0 mn xid then (match x_mo_breaksOff a14_0 with | (y17_al, y17_mn) => (0, y17_al, (x_mo_attacks al n) - (x_mo_attacks a14_0 (n - 1)), n - 1, y17_mn)) else (0, a14_0, (x_mo_attacks al n) - (x_mo_attacks a14_0 (n - 1)), n - 1, mn))))))
set_option maxRecDepth 100000 in
set_option maxHeartbeats 8000000 in
theorem e_mo_removes {g : q_G} {h : q_H} {d : Nat} {th : Int32} {al : Nat → Int32} {cg : Nat} {sv : Bool} {rs : Int32} {ac : Int32} {rj : Int32} {ro : Nat → Int32} {ad : Nat → Int32} {bf : Nat → Int32} {ln : Nat → Int32} {lz : Nat} {ip : Nat → Int32} {ty : Nat} {he : Nat} {er : Int32} {ea : Int32} {fa : Int32} {cm : Nat → Int32} {cn : Nat} {n : Nat} {mn : Nat} (smo : z_Mo h 215 th al cg sv rs ac rj ro ad bf ln lz ip ty he er ea fa cm cn n mn)  (xid : Int32)   (hd : 2 ≤ d) : q_Spec g mX11_removes d 0 0 [.ref (215), .int (xid)] h (q_chg (.inl (some (.int (x_mo_removes al rs n mn xid).1))) (fun h1 => z_Mo h1 215 th ((x_mo_removes al rs n mn xid).2.1) cg sv ((x_mo_removes al rs n mn xid).2.2.1) ac rj ro ad bf ln lz ip ty he er ea fa cm cn ((x_mo_removes al rs n mn xid).2.2.2.1) ((x_mo_removes al rs n mn xid).2.2.2.2) ∧ q_same h h1 215 8)) := by
  have hb_mo_cg := smo.bcg
  have hb_mo_lz := smo.blz
  have hb_mo_ty := smo.bty
  have hb_mo_he := smo.bhe
  have hb_mo_cn := smo.bcn
  have hb_mo_n := smo.bn
  have hb_mo_mn := smo.bmn
  have ho_mo_cg := smo.bcg
  have ho_mo_lz := smo.blz
  have ho_mo_ty := smo.bty
  have ho_mo_he := smo.bhe
  have ho_mo_cn := smo.bcn
  have ho_mo_n := smo.bn
  have ho_mo_mn := smo.bmn
  have p0 : q_same h h 215 8 := q_same.rfl'
  refine q_enter (by decide +kernel) rfl rfl (Nat.le_of_ble_eq_true rfl) (fun hz => ?_)
  change q_W _ _ _ _ _ _ _ _ _ [.ref (215), .int (xid), q_u, q_u, q_u, q_u, q_u] [] _
  refine q_aload_n (by first | assumption | omega | decide | (rw [q_R0e]; omega)) dX11_removes_0 rfl ?_
  refine q_iload_n dX11_removes_1 rfl ?_
  have g1 : x_pl n al xid ≤ n := x_pl_le
  refine q_invV (mc' := 0) (ms' := 0) (d' := d - 1) (as := [.int (xid)]) dX11_removes_2 kM_X11_place kL_X11_57 kI_X11_place kS_X11_place rfl (kC_X11.1) smo.c0 rfl rfl (Nat.le_of_ble_eq_true rfl) (by omega) (by decide) (by omega) (by omega) (e_place (d := d - 1) smo xid (by omega)) (q_kR ?_) q_xR
  change q_W _ _ _ _ _ _ _ _ 5 [.ref (215), .int (xid), q_u, q_u, q_u, q_u, q_u] [.int (z_dn (x_pl n al xid))] _
  refine q_istore_n dX11_removes_5 (by decide) rfl ?_
  change q_W _ _ _ _ _ _ _ _ _ [.ref (215), .int (xid), .int (z_dn (x_pl n al xid)), q_u, q_u, q_u, q_u] [] _
  refine q_iload_n dX11_removes_6 rfl ?_
  refine q_if_ge 12 dX11_removes_7 (by decide) (fun b7 => ?_) (fun b7 => ?_)
  · have b7 : ¬ (x_pl n al xid = 0) := fun q => z_gelt b7 ((z_dn_lt (by omega)).mpr q)
    rw [z_dn_pos b7]
    refine q_aload_n (by first | assumption | omega | decide | (rw [q_R0e]; omega)) dX11_removes_12 rfl ?_
    refine q_invV (mc' := 0) (ms' := 0) (d' := d - 1) (as := []) dX11_removes_13 kM_X11_attacks kL_X11_126 kI_X11_attacks kS_X11_attacks rfl (kC_X11.1) smo.c0 rfl rfl (Nat.le_of_ble_eq_true rfl) (by omega) (by decide) (by omega) (by omega) (e_mo_attacks (d := d - 1) smo (by omega)) (q_kR ?_) q_xR
    change q_W _ _ _ _ _ _ _ _ 16 [.ref (215), .int (xid), .int (nI ((x_pl n al xid) - 1)), q_u, q_u, q_u, q_u] [.int (x_mo_attacks al n)] _
    refine q_istore_n dX11_removes_16 (by decide) rfl ?_
    change q_W _ _ _ _ _ _ _ _ _ [.ref (215), .int (xid), .int (nI ((x_pl n al xid) - 1)), .int (x_mo_attacks al n), q_u, q_u, q_u] [] _
    refine q_aload_n (by first | assumption | omega | decide | (rw [q_R0e]; omega)) dX11_removes_17 rfl ?_
    refine q_getf (k := 1) (v := .ref (216)) kC_X11 kL_X11_9 rfl (by decide) dX11_removes_18 smo.c0 rfl ?_
    refine q_iconst (v := 0) dX11_removes_21 rfl ?_
    refine q_ialdN (j := 0) (f := al) dX11_removes_22 smo.c1 (by omega) (by decide) ?_
    rw [smo.en]
    change q_W _ _ _ _ _ _ _ _ _ _ [.int (nI (n))] _
    refine q_iconst (v := 1) dX11_removes_23 rfl ?_
    refine q_isubN (a := n) (b := 1) (by omega) dX11_removes_24 ?_
    refine q_istore dX11_removes_25 (by decide) rfl ?_
    change q_W _ _ _ _ _ _ _ _ _ [.ref (215), .int (xid), .int (nI ((x_pl n al xid) - 1)), .int (x_mo_attacks al n), .int (nI (n - 1)), q_u, q_u] [] _
    refine q_iload_n dX11_removes_27 rfl ?_
    refine q_istore dX11_removes_28 (by decide) rfl ?_
    change q_W _ _ _ _ _ _ _ _ _ [.ref (215), .int (xid), .int (nI ((x_pl n al xid) - 1)), .int (x_mo_attacks al n), .int (nI (n - 1)), .int (nI ((x_pl n al xid) - 1)), q_u] [] _
    change q_W _ _ _ _ _ _ _ _ _ [.ref (215), .int (xid), .int (nI ((x_pl n al xid) - 1)), .int (x_mo_attacks al n), .int (nI (n - 1)), .int (nI ((x_pl n al xid) - 1)), q_u] [] _
    refine l_mo_removes_30 ho_mo_cg ho_mo_lz ho_mo_ty ho_mo_he ho_mo_cn ho_mo_n ho_mo_mn g1 b7 (by omega) (by omega) (by omega) (n - 1 - ((x_pl n al xid) - 1)) ((x_pl n al xid) - 1) al h smo p0 (by omega) (fun a6_0 x6 h7 smo7 p7 => ?_)
    have hb_mo_cg := smo7.bcg
    have hb_mo_lz := smo7.blz
    have hb_mo_ty := smo7.bty
    have hb_mo_he := smo7.bhe
    have hb_mo_cn := smo7.bcn
    have hb_mo_n := smo7.bn
    have hb_mo_mn := smo7.bmn
    change q_W _ _ _ _ _ _ _ _ 112 [.ref (215), .int (xid), .int (nI ((x_pl n al xid) - 1)), .int (x_mo_attacks al n), .int (nI (n - 1)), q_u, q_u] [] _
    refine q_iconst (v := 0) dX11_removes_112 rfl ?_
    refine q_istore dX11_removes_113 (by decide) rfl ?_
    change q_W _ _ _ _ _ _ _ _ _ [.ref (215), .int (xid), .int (nI ((x_pl n al xid) - 1)), .int (x_mo_attacks al n), .int (nI (n - 1)), .int (0), q_u] [] _
    change q_W _ _ _ _ _ _ _ _ _ [.ref (215), .int (xid), .int (nI ((x_pl n al xid) - 1)), .int (x_mo_attacks al n), .int (nI (n - 1)), .int (0), q_u] [] _
    refine l_mo_removes_115 ho_mo_cg ho_mo_lz ho_mo_ty ho_mo_he ho_mo_cn ho_mo_n ho_mo_mn g1 b7 (by omega) (by omega) (by omega) 3 0 a6_0 h7 smo7 p7 (by omega) (fun a9_0 x9 h10 smo10 p10 => ?_)
    have hb_mo_cg := smo10.bcg
    have hb_mo_lz := smo10.blz
    have hb_mo_ty := smo10.bty
    have hb_mo_he := smo10.bhe
    have hb_mo_cn := smo10.bcn
    have hb_mo_n := smo10.bn
    have hb_mo_mn := smo10.bmn
    change q_W _ _ _ _ _ _ _ _ 143 [.ref (215), .int (xid), .int (nI ((x_pl n al xid) - 1)), .int (x_mo_attacks al n), .int (nI (n - 1)), q_u, q_u] [] _
    refine q_aload_n (by first | assumption | omega | decide | (rw [q_R0e]; omega)) dX11_removes_143 rfl ?_
    refine q_getf (k := 1) (v := .ref (216)) kC_X11 kL_X11_9 rfl (by decide) dX11_removes_144 smo10.c0 rfl ?_
    refine q_bipush (v := 31) dX11_removes_147 rfl ?_
    refine q_iload dX11_removes_149 rfl ?_
    refine q_iaddN (a := 31) (b := n - 1) dX11_removes_151 ?_
    change q_W _ _ _ _ _ _ _ _ _ _ [.int (nI (31 + (n - 1))), .ref (216)] _
    refine q_iconst (v := 0) dX11_removes_152 rfl ?_
    refine q_iastN (j := 31 + (n - 1)) dX11_removes_153 smo10.c1 (by omega) (by decide) ?_
    refine z_genW (B := fun H => z_Mo H 215 th (upd a9_0 (31 + (n - 1)) (0)) cg sv rs ac rj ro ad bf ln lz ip ty he er ea fa cm cn n mn ∧ q_same h H 215 8) ⟨z_Mo.put1 smo10 (n' := n) (mn' := mn) (hbn := by first | omega | (split <;> omega)) (hbmn := by first | omega | (split <;> omega)) (hen := (upd_ne (by omega)).trans smo10.en) (hemn := (upd_ne (by omega)).trans smo10.emn), p10.trans (q_same.set (by omega) (by omega))⟩ (fun h11 hB => ?_)
    obtain ⟨smo11, p11⟩ := hB
    have hb_mo_cg := smo11.bcg
    have hb_mo_lz := smo11.blz
    have hb_mo_ty := smo11.bty
    have hb_mo_he := smo11.bhe
    have hb_mo_cn := smo11.bcn
    have hb_mo_n := smo11.bn
    have hb_mo_mn := smo11.bmn
    refine q_aload_n (by first | assumption | omega | decide | (rw [q_R0e]; omega)) dX11_removes_154 rfl ?_
    refine q_getf (k := 1) (v := .ref (216)) kC_X11 kL_X11_9 rfl (by decide) dX11_removes_155 smo11.c0 rfl ?_
    refine q_iconst (v := 0) dX11_removes_158 rfl ?_
    refine q_iload dX11_removes_159 rfl ?_
    refine q_iastN (j := 0) dX11_removes_161 smo11.c1 (by omega) (by decide) ?_
    refine z_genW (B := fun H => z_Mo H 215 th (upd (upd a9_0 (31 + (n - 1)) (0)) 0 (nI (n - 1))) cg sv rs ac rj ro ad bf ln lz ip ty he er ea fa cm cn (n - 1) mn ∧ q_same h H 215 8) ⟨z_Mo.put1 smo11 (n' := n - 1) (mn' := mn) (hbn := by first | omega | (split <;> omega)) (hbmn := by first | omega | (split <;> omega)) (hen := upd_eq) (hemn := (upd_ne (by omega)).trans smo11.emn), p11.trans (q_same.set (by omega) (by omega))⟩ (fun h12 hB => ?_)
    obtain ⟨smo12, p12⟩ := hB
    have hb_mo_cg := smo12.bcg
    have hb_mo_lz := smo12.blz
    have hb_mo_ty := smo12.bty
    have hb_mo_he := smo12.bhe
    have hb_mo_cn := smo12.bcn
    have hb_mo_n := smo12.bn
    have hb_mo_mn := smo12.bmn
    refine q_iconst (v := 0) dX11_removes_162 rfl ?_
    refine q_istore dX11_removes_163 (by decide) rfl ?_
    change q_W _ _ _ _ _ _ _ _ _ [.ref (215), .int (xid), .int (nI ((x_pl n al xid) - 1)), .int (x_mo_attacks al n), .int (nI (n - 1)), .int (0), q_u] [] _
    change q_W _ _ _ _ _ _ _ _ _ [.ref (215), .int (xid), .int (nI ((x_pl n al xid) - 1)), .int (x_mo_attacks al n), .int (nI (n - 1)), .int (0), q_u] [] _
    refine l_mo_removes_165 ho_mo_cg ho_mo_lz ho_mo_ty ho_mo_he ho_mo_cn ho_mo_n ho_mo_mn g1 b7 (by omega) (by omega) (by omega) (n - 1) 0 (upd (upd a9_0 (31 + (n - 1)) (0)) 0 (nI (n - 1))) h12 smo12 p12 (by omega) (fun a14_0 x14 h15 smo15 p15 => ?_)
    have hb_mo_cg := smo15.bcg
    have hb_mo_lz := smo15.blz
    have hb_mo_ty := smo15.bty
    have hb_mo_he := smo15.bhe
    have hb_mo_cn := smo15.bcn
    have hb_mo_n := smo15.bn
    have hb_mo_mn := smo15.bmn
    change q_W _ _ _ _ _ _ _ _ 202 [.ref (215), .int (xid), q_u, .int (x_mo_attacks al n), q_u, q_u, q_u] [] _
    refine q_aload_n (by first | assumption | omega | decide | (rw [q_R0e]; omega)) dX11_removes_202 rfl ?_
    refine q_iload_n dX11_removes_203 rfl ?_
    refine q_aload_n (by first | assumption | omega | decide | (rw [q_R0e]; omega)) dX11_removes_204 rfl ?_
    refine q_invV (mc' := 0) (ms' := 0) (d' := d - 1) (as := []) dX11_removes_205 kM_X11_attacks kL_X11_126 kI_X11_attacks kS_X11_attacks rfl (kC_X11.1) smo15.c0 rfl rfl (Nat.le_of_ble_eq_true rfl) (by omega) (by decide) (by omega) (by omega) (e_mo_attacks (d := d - 1) smo15 (by omega)) (q_kR ?_) q_xR
    change q_W _ _ _ _ _ _ _ _ 208 [.ref (215), .int (xid), q_u, .int (x_mo_attacks al n), q_u, q_u, q_u] [.int (x_mo_attacks a14_0 (n - 1)), .int (x_mo_attacks al n), .ref (215)] _
    refine q_isub dX11_removes_208 ?_
    refine q_putf (k := 4) kC_X11 kL_X11_50 rfl (by decide) rfl dX11_removes_209 smo15.c0 (Nat.le_of_ble_eq_true rfl) ⟨rfl, rfl⟩ rfl ?_
    refine z_genW (B := fun H => z_Mo H 215 th a14_0 cg sv ((x_mo_attacks al n) - (x_mo_attacks a14_0 (n - 1))) ac rj ro ad bf ln lz ip ty he er ea fa cm cn (n - 1) mn ∧ q_same h H 215 8) ⟨z_Mo.put0 smo15 (cg' := cg) (sv' := sv) (lz' := lz) (ty' := ty) (he' := he) (cn' := cn) (hbcg := by first | omega | (split <;> omega)) (hblz := by first | omega | (split <;> omega)) (hbty := by first | omega | (split <;> omega)) (hbhe := by first | omega | (split <;> omega)) (hbcn := by first | omega | (split <;> omega)), p15.trans (q_same.set (by omega) (by omega))⟩ (fun h16 hB => ?_)
    obtain ⟨smo16, p16⟩ := hB
    have hb_mo_cg := smo16.bcg
    have hb_mo_lz := smo16.blz
    have hb_mo_ty := smo16.bty
    have hb_mo_he := smo16.bhe
    have hb_mo_cn := smo16.bcn
    have hb_mo_n := smo16.bn
    have hb_mo_mn := smo16.bmn
    refine q_aload_n (by first | assumption | omega | decide | (rw [q_R0e]; omega)) dX11_removes_212 rfl ?_
    refine q_iload_n dX11_removes_213 rfl ?_
    refine q_invV (mc' := 0) (ms' := 0) (d' := d - 1) (as := [.int (xid)]) dX11_removes_214 kM_X11_wasMoved kL_X11_132 kI_X11_wasMoved kS_X11_wasMoved rfl (kC_X11.1) smo16.c0 rfl rfl (Nat.le_of_ble_eq_true rfl) (by omega) (by decide) (by omega) (by omega) (e_mo_wasMoved (d := d - 1) smo16 xid (by omega)) (q_kR ?_) q_xR
    change q_W _ _ _ _ _ _ _ _ 217 [.ref (215), .int (xid), q_u, .int (x_mo_attacks al n), q_u, q_u, q_u] [.int (z_b (x_mo_wasMoved a14_0 mn xid))] _
    refine q_if_eq 224 dX11_removes_217 (by decide) (fun b217 => ?_) (fun b217 => ?_)
    · have b217 := z_b0n b217
      refine q_iconst (v := 0) dX11_removes_224 rfl ?_
      have hE : x_mo_removes al rs n mn xid = (0, a14_0, (x_mo_attacks al n) - (x_mo_attacks a14_0 (n - 1)), n - 1, mn) := by simp only [x_mo_removes, if_neg b7, x6, x9, x14, if_neg b217]
      rw [hE]
      exact q_ireturn dX11_removes_225 rfl rfl (by omega) (by omega) ⟨rfl, smo16, p16⟩
    · have b217 := z_b1 b217
      refine q_aload_n (by first | assumption | omega | decide | (rw [q_R0e]; omega)) dX11_removes_220 rfl ?_
      rcases x17 : x_mo_breaksOff a14_0 with ⟨y17_al, y17_mn⟩
      have e9 := e_mo_breaksOff (g := g) (h := h16) (d := d - 1) smo16 (by omega)
      rw [x17] at e9
      refine q_invV (mc' := 0) (ms' := 0) (d' := d - 1) (as := []) dX11_removes_221 kM_X11_breaksOff kL_X11_135 kI_X11_breaksOff kS_X11_breaksOff rfl (kC_X11.1) smo16.c0 rfl rfl (Nat.le_of_ble_eq_true rfl) (by omega) (by decide) (by omega) (by omega) (e9) (q_kC (fun h18 hB => ?_)) q_xC
      obtain ⟨t18_0, pp18⟩ := hB
      have smo18 := t18_0
      have p18 := p16.trans (pp18.wide (by omega) (by omega))
      have hb_mo_cg := smo18.bcg
      have hb_mo_lz := smo18.blz
      have hb_mo_ty := smo18.bty
      have hb_mo_he := smo18.bhe
      have hb_mo_cn := smo18.bcn
      have hb_mo_n := smo18.bn
      have hb_mo_mn : y17_mn ≤ 12 := smo18.bmn
      change q_W _ _ _ _ _ _ _ _ 224 [.ref (215), .int (xid), q_u, .int (x_mo_attacks al n), q_u, q_u, q_u] [] _
      refine q_iconst (v := 0) dX11_removes_224 rfl ?_
      have hE : x_mo_removes al rs n mn xid = (0, y17_al, (x_mo_attacks al n) - (x_mo_attacks a14_0 (n - 1)), n - 1, y17_mn) := by simp only [x_mo_removes, if_neg b7, x6, x9, x14, if_pos b217, x17]
      rw [hE]
      exact q_ireturn dX11_removes_225 rfl rfl (by omega) (by omega) ⟨rfl, smo18, p18⟩
  · have b7 : x_pl n al xid = 0 := (z_dn_lt (by omega)).mp (z_notge b7)
    refine q_iconst (v := 3) dX11_removes_10 rfl ?_
    have hE : x_mo_removes al rs n mn xid = (3, al, rs, n, mn) := by simp only [x_mo_removes, if_pos b7]
    rw [hE]
    exact q_ireturn dX11_removes_11 rfl rfl (by omega) (by omega) ⟨rfl, smo, p0⟩
def x_mo_leads (al : Nat → Int32) (rs : Int32) (n : Nat) (xf : Int32) (xt : Int32) : (Int32) × (Nat → Int32) × (Int32) := (if x_th n al xf then (if x_th n al xt then (if (xf) = (xt) then (1, al, rs) else (if x_mo_isAttack al (x_pl n al xf - 1) (x_pl n al xt - 1) then (2, al, rs) else (if (x_mo_attacks al n) = (20) then (2, al, rs) else (let v6 := x_mo_attacks (upd al (31 + (x_pl n al xf - 1)) ((al (31 + (x_pl n al xf - 1))) ||| ((1 : Int32) <<< ((nI (x_pl n al xt - 1)) &&& 31)))) n; (0, upd al (31 + (x_pl n al xf - 1)) ((al (31 + (x_pl n al xf - 1))) ||| ((1 : Int32) <<< ((nI (x_pl n al xt - 1)) &&& 31))), v6))))) else (3, al, rs)) else (3, al, rs))
set_option maxRecDepth 100000 in
set_option maxHeartbeats 8000000 in
theorem e_mo_leads {g : q_G} {h : q_H} {d : Nat} {th : Int32} {al : Nat → Int32} {cg : Nat} {sv : Bool} {rs : Int32} {ac : Int32} {rj : Int32} {ro : Nat → Int32} {ad : Nat → Int32} {bf : Nat → Int32} {ln : Nat → Int32} {lz : Nat} {ip : Nat → Int32} {ty : Nat} {he : Nat} {er : Int32} {ea : Int32} {fa : Int32} {cm : Nat → Int32} {cn : Nat} {n : Nat} {mn : Nat} (smo : z_Mo h 215 th al cg sv rs ac rj ro ad bf ln lz ip ty he er ea fa cm cn n mn)  (xf : Int32) (xt : Int32)   (hd : 3 ≤ d) : q_Spec g mX11_leads d 0 0 [.ref (215), .int (xf), .int (xt)] h (q_chg (.inl (some (.int (x_mo_leads al rs n xf xt).1))) (fun h1 => z_Mo h1 215 th ((x_mo_leads al rs n xf xt).2.1) cg sv ((x_mo_leads al rs n xf xt).2.2) ac rj ro ad bf ln lz ip ty he er ea fa cm cn n mn ∧ q_same h h1 215 8)) := by
  have hb_mo_cg := smo.bcg
  have hb_mo_lz := smo.blz
  have hb_mo_ty := smo.bty
  have hb_mo_he := smo.bhe
  have hb_mo_cn := smo.bcn
  have hb_mo_n := smo.bn
  have hb_mo_mn := smo.bmn
  have ho_mo_cg := smo.bcg
  have ho_mo_lz := smo.blz
  have ho_mo_ty := smo.bty
  have ho_mo_he := smo.bhe
  have ho_mo_cn := smo.bcn
  have ho_mo_n := smo.bn
  have ho_mo_mn := smo.bmn
  have p0 : q_same h h 215 8 := q_same.rfl'
  refine q_enter (by decide +kernel) rfl rfl (Nat.le_of_ble_eq_true rfl) (fun hz => ?_)
  change q_W _ _ _ _ _ _ _ _ _ [.ref (215), .int (xf), .int (xt)] [] _
  refine q_aload_n (by first | assumption | omega | decide | (rw [q_R0e]; omega)) dX11_leads_0 rfl ?_
  refine q_iload_n dX11_leads_1 rfl ?_
  refine q_invV (mc' := 0) (ms' := 0) (d' := d - 1) (as := [.int (xf)]) dX11_leads_2 kM_X11_isThere kL_X11_141 kI_X11_isThere kS_X11_isThere rfl (kC_X11.1) smo.c0 rfl rfl (Nat.le_of_ble_eq_true rfl) (by omega) (by decide) (by omega) (by omega) (e_isThere (d := d - 1) smo xf (by omega)) (q_kR ?_) q_xR
  change q_W _ _ _ _ _ _ _ _ 5 [.ref (215), .int (xf), .int (xt)] [.int (z_b (x_th n al xf))] _
  refine q_if_eq 16 dX11_leads_5 (by decide) (fun b5 => ?_) (fun b5 => ?_)
  · have b5 := z_b0n b5
    have fb5 : x_pl n al xf = 0 := z_nth b5
    refine q_iconst (v := 3) dX11_leads_16 rfl ?_
    have hE : x_mo_leads al rs n xf xt = (3, al, rs) := by simp only [x_mo_leads, if_neg b5]
    rw [hE]
    exact q_ireturn dX11_leads_17 rfl rfl (by omega) (by omega) ⟨rfl, smo, p0⟩
  · have b5 := z_b1 b5
    have fb5 : 0 < x_pl n al xf := z_th b5
    refine q_aload_n (by first | assumption | omega | decide | (rw [q_R0e]; omega)) dX11_leads_8 rfl ?_
    refine q_iload_n dX11_leads_9 rfl ?_
    refine q_invV (mc' := 0) (ms' := 0) (d' := d - 1) (as := [.int (xt)]) dX11_leads_10 kM_X11_isThere kL_X11_141 kI_X11_isThere kS_X11_isThere rfl (kC_X11.1) smo.c0 rfl rfl (Nat.le_of_ble_eq_true rfl) (by omega) (by decide) (by omega) (by omega) (e_isThere (d := d - 1) smo xt (by omega)) (q_kR ?_) q_xR
    change q_W _ _ _ _ _ _ _ _ 13 [.ref (215), .int (xf), .int (xt)] [.int (z_b (x_th n al xt))] _
    refine q_if_ne 18 dX11_leads_13 (by decide) (fun b13 => ?_) (fun b13 => ?_)
    · have b13 := z_b1 b13
      have fb13 : 0 < x_pl n al xt := z_th b13
      refine q_iload_n dX11_leads_18 rfl ?_
      refine q_iload_n dX11_leads_19 rfl ?_
      refine q_icmp_ne 25 dX11_leads_20 (by decide) (fun b20 => ?_) (fun b20 => ?_)
      · refine q_aload_n (by first | assumption | omega | decide | (rw [q_R0e]; omega)) dX11_leads_25 rfl ?_
        refine q_aload_n (by first | assumption | omega | decide | (rw [q_R0e]; omega)) dX11_leads_26 rfl ?_
        refine q_iload_n dX11_leads_27 rfl ?_
        have g1 : x_pl n al xf ≤ n := x_pl_le
        refine q_invV (mc' := 0) (ms' := 0) (d' := d - 1) (as := [.int (xf)]) dX11_leads_28 kM_X11_place kL_X11_57 kI_X11_place kS_X11_place rfl (kC_X11.1) smo.c0 rfl rfl (Nat.le_of_ble_eq_true rfl) (by omega) (by decide) (by omega) (by omega) (e_placeP (d := d - 1) smo xf (by omega) (by omega)) (q_kR ?_) q_xR
        change q_W _ _ _ _ _ _ _ _ 31 [.ref (215), .int (xf), .int (xt)] [.int (nI (x_pl n al xf - 1)), .ref (215)] _
        refine q_aload_n (by first | assumption | omega | decide | (rw [q_R0e]; omega)) dX11_leads_31 rfl ?_
        refine q_iload_n dX11_leads_32 rfl ?_
        have g2 : x_pl n al xt ≤ n := x_pl_le
        refine q_invV (mc' := 0) (ms' := 0) (d' := d - 1) (as := [.int (xt)]) dX11_leads_33 kM_X11_place kL_X11_57 kI_X11_place kS_X11_place rfl (kC_X11.1) smo.c0 rfl rfl (Nat.le_of_ble_eq_true rfl) (by omega) (by decide) (by omega) (by omega) (e_placeP (d := d - 1) smo xt (by omega) (by omega)) (q_kR ?_) q_xR
        change q_W _ _ _ _ _ _ _ _ 36 [.ref (215), .int (xf), .int (xt)] [.int (nI (x_pl n al xt - 1)), .int (nI (x_pl n al xf - 1)), .ref (215)] _
        refine q_invV (mc' := 0) (ms' := 0) (d' := d - 1) (as := [.int (nI (x_pl n al xf - 1)), .int (nI (x_pl n al xt - 1))]) dX11_leads_36 kM_X11_isAttack kL_X11_61 kI_X11_isAttack kS_X11_isAttack rfl (kC_X11.1) smo.c0 rfl rfl (Nat.le_of_ble_eq_true rfl) (by omega) (by decide) (by omega) (by omega) (e_mo_isAttack (d := d - 1) smo (x_pl n al xf - 1) (x_pl n al xt - 1) (by omega) (by omega) (by omega)) (q_kR ?_) q_xR
        change q_W _ _ _ _ _ _ _ _ 39 [.ref (215), .int (xf), .int (xt)] [.int (z_b (x_mo_isAttack al (x_pl n al xf - 1) (x_pl n al xt - 1)))] _
        refine q_if_ne 51 dX11_leads_39 (by decide) (fun b39 => ?_) (fun b39 => ?_)
        · have b39 := z_b1 b39
          refine q_iconst (v := 2) dX11_leads_51 rfl ?_
          have hE : x_mo_leads al rs n xf xt = (2, al, rs) := by simp only [x_mo_leads, if_pos b5, if_pos b13, if_neg b20, if_pos b39]
          rw [hE]
          exact q_ireturn dX11_leads_52 rfl rfl (by omega) (by omega) ⟨rfl, smo, p0⟩
        · have b39 := z_b0n b39
          refine q_aload_n (by first | assumption | omega | decide | (rw [q_R0e]; omega)) dX11_leads_42 rfl ?_
          refine q_invV (mc' := 0) (ms' := 0) (d' := d - 1) (as := []) dX11_leads_43 kM_X11_attacks kL_X11_126 kI_X11_attacks kS_X11_attacks rfl (kC_X11.1) smo.c0 rfl rfl (Nat.le_of_ble_eq_true rfl) (by omega) (by decide) (by omega) (by omega) (e_mo_attacks (d := d - 1) smo (by omega)) (q_kR ?_) q_xR
          change q_W _ _ _ _ _ _ _ _ 46 [.ref (215), .int (xf), .int (xt)] [.int (x_mo_attacks al n)] _
          refine q_bipush (v := 20) dX11_leads_46 rfl ?_
          refine q_icmp_ne 53 dX11_leads_48 (by decide) (fun b48 => ?_) (fun b48 => ?_)
          · refine q_aload_n (by first | assumption | omega | decide | (rw [q_R0e]; omega)) dX11_leads_53 rfl ?_
            refine q_getf (k := 1) (v := .ref (216)) kC_X11 kL_X11_9 rfl (by decide) dX11_leads_54 smo.c0 rfl ?_
            refine q_bipush (v := 31) dX11_leads_57 rfl ?_
            refine q_aload_n (by first | assumption | omega | decide | (rw [q_R0e]; omega)) dX11_leads_59 rfl ?_
            refine q_iload_n dX11_leads_60 rfl ?_
            have g3 : x_pl n al xf ≤ n := x_pl_le
            refine q_invV (mc' := 0) (ms' := 0) (d' := d - 1) (as := [.int (xf)]) dX11_leads_61 kM_X11_place kL_X11_57 kI_X11_place kS_X11_place rfl (kC_X11.1) smo.c0 rfl rfl (Nat.le_of_ble_eq_true rfl) (by omega) (by decide) (by omega) (by omega) (e_placeP (d := d - 1) smo xf (by omega) (by omega)) (q_kR ?_) q_xR
            change q_W _ _ _ _ _ _ _ _ 64 [.ref (215), .int (xf), .int (xt)] [.int (nI (x_pl n al xf - 1)), .int (31), .ref (216)] _
            refine q_iaddN (a := 31) (b := x_pl n al xf - 1) dX11_leads_64 ?_
            change q_W _ _ _ _ _ _ _ _ _ _ [.int (nI (31 + (x_pl n al xf - 1))), .ref (216)] _
            refine q_dup2 dX11_leads_65 rfl rfl ?_
            refine q_ialdN (j := 31 + (x_pl n al xf - 1)) (f := al) dX11_leads_66 smo.c1 (by omega) (by decide) ?_
            change q_W _ _ _ _ _ _ _ _ _ _ [.int (al (31 + (x_pl n al xf - 1))), .int (nI (31 + (x_pl n al xf - 1))), .ref (216)] _
            refine q_iconst (v := 1) dX11_leads_67 rfl ?_
            refine q_aload_n (by first | assumption | omega | decide | (rw [q_R0e]; omega)) dX11_leads_68 rfl ?_
            refine q_iload_n dX11_leads_69 rfl ?_
            have g4 : x_pl n al xt ≤ n := x_pl_le
            refine q_invV (mc' := 0) (ms' := 0) (d' := d - 1) (as := [.int (xt)]) dX11_leads_70 kM_X11_place kL_X11_57 kI_X11_place kS_X11_place rfl (kC_X11.1) smo.c0 rfl rfl (Nat.le_of_ble_eq_true rfl) (by omega) (by decide) (by omega) (by omega) (e_placeP (d := d - 1) smo xt (by omega) (by omega)) (q_kR ?_) q_xR
            change q_W _ _ _ _ _ _ _ _ 73 [.ref (215), .int (xf), .int (xt)] [.int (nI (x_pl n al xt - 1)), .int (1), .int (al (31 + (x_pl n al xf - 1))), .int (nI (31 + (x_pl n al xf - 1))), .ref (216)] _
            refine q_ishl dX11_leads_73 ?_
            refine q_ior dX11_leads_74 ?_
            refine q_iastN (j := 31 + (x_pl n al xf - 1)) dX11_leads_75 smo.c1 (by omega) (by decide) ?_
            refine z_genW (B := fun H => z_Mo H 215 th (upd al (31 + (x_pl n al xf - 1)) ((al (31 + (x_pl n al xf - 1))) ||| ((1 : Int32) <<< ((nI (x_pl n al xt - 1)) &&& 31)))) cg sv rs ac rj ro ad bf ln lz ip ty he er ea fa cm cn n mn ∧ q_same h H 215 8) ⟨z_Mo.put1 smo (n' := n) (mn' := mn) (hbn := by first | omega | (split <;> omega)) (hbmn := by first | omega | (split <;> omega)) (hen := (upd_ne (by omega)).trans smo.en) (hemn := (upd_ne (by omega)).trans smo.emn), p0.trans (q_same.set (by omega) (by omega))⟩ (fun h5 hB => ?_)
            obtain ⟨smo5, p5⟩ := hB
            have hb_mo_cg := smo5.bcg
            have hb_mo_lz := smo5.blz
            have hb_mo_ty := smo5.bty
            have hb_mo_he := smo5.bhe
            have hb_mo_cn := smo5.bcn
            have hb_mo_n := smo5.bn
            have hb_mo_mn := smo5.bmn
            refine q_aload_n (by first | assumption | omega | decide | (rw [q_R0e]; omega)) dX11_leads_76 rfl ?_
            refine q_aload_n (by first | assumption | omega | decide | (rw [q_R0e]; omega)) dX11_leads_77 rfl ?_
            obtain ⟨v6, x6⟩ : ∃ z, x_mo_attacks (upd al (31 + (x_pl n al xf - 1)) ((al (31 + (x_pl n al xf - 1))) ||| ((1 : Int32) <<< ((nI (x_pl n al xt - 1)) &&& 31)))) n = z := ⟨_, rfl⟩
            have e9 := e_mo_attacks (g := g) (h := h5) (d := d - 1) smo5 (by omega)
            rw [x6] at e9
            refine q_invV (mc' := 0) (ms' := 0) (d' := d - 1) (as := []) dX11_leads_78 kM_X11_attacks kL_X11_126 kI_X11_attacks kS_X11_attacks rfl (kC_X11.1) smo5.c0 rfl rfl (Nat.le_of_ble_eq_true rfl) (by omega) (by decide) (by omega) (by omega) (e9) (q_kR ?_) q_xR
            change q_W _ _ _ _ _ _ _ _ 81 [.ref (215), .int (xf), .int (xt)] [.int (v6), .ref (215)] _
            refine q_putf (k := 4) kC_X11 kL_X11_50 rfl (by decide) rfl dX11_leads_81 smo5.c0 (Nat.le_of_ble_eq_true rfl) ⟨rfl, rfl⟩ rfl ?_
            refine z_genW (B := fun H => z_Mo H 215 th (upd al (31 + (x_pl n al xf - 1)) ((al (31 + (x_pl n al xf - 1))) ||| ((1 : Int32) <<< ((nI (x_pl n al xt - 1)) &&& 31)))) cg sv v6 ac rj ro ad bf ln lz ip ty he er ea fa cm cn n mn ∧ q_same h H 215 8) ⟨z_Mo.put0 smo5 (cg' := cg) (sv' := sv) (lz' := lz) (ty' := ty) (he' := he) (cn' := cn) (hbcg := by first | omega | (split <;> omega)) (hblz := by first | omega | (split <;> omega)) (hbty := by first | omega | (split <;> omega)) (hbhe := by first | omega | (split <;> omega)) (hbcn := by first | omega | (split <;> omega)), p5.trans (q_same.set (by omega) (by omega))⟩ (fun h8 hB => ?_)
            obtain ⟨smo8, p8⟩ := hB
            have hb_mo_cg := smo8.bcg
            have hb_mo_lz := smo8.blz
            have hb_mo_ty := smo8.bty
            have hb_mo_he := smo8.bhe
            have hb_mo_cn := smo8.bcn
            have hb_mo_n := smo8.bn
            have hb_mo_mn := smo8.bmn
            refine q_iconst (v := 0) dX11_leads_84 rfl ?_
            have hE : x_mo_leads al rs n xf xt = (0, upd al (31 + (x_pl n al xf - 1)) ((al (31 + (x_pl n al xf - 1))) ||| ((1 : Int32) <<< ((nI (x_pl n al xt - 1)) &&& 31))), v6) := by simp only [x_mo_leads, if_pos b5, if_pos b13, if_neg b20, if_neg b39, if_neg b48, x6]
            rw [hE]
            exact q_ireturn dX11_leads_85 rfl rfl (by omega) (by omega) ⟨rfl, smo8, p8⟩
          · refine q_iconst (v := 2) dX11_leads_51 rfl ?_
            have hE : x_mo_leads al rs n xf xt = (2, al, rs) := by simp only [x_mo_leads, if_pos b5, if_pos b13, if_neg b20, if_neg b39, if_pos b48]
            rw [hE]
            exact q_ireturn dX11_leads_52 rfl rfl (by omega) (by omega) ⟨rfl, smo, p0⟩
      · refine q_iconst (v := 1) dX11_leads_23 rfl ?_
        have hE : x_mo_leads al rs n xf xt = (1, al, rs) := by simp only [x_mo_leads, if_pos b5, if_pos b13, if_pos b20]
        rw [hE]
        exact q_ireturn dX11_leads_24 rfl rfl (by omega) (by omega) ⟨rfl, smo, p0⟩
    · have b13 := z_b0n b13
      have fb13 : x_pl n al xt = 0 := z_nth b13
      refine q_iconst (v := 3) dX11_leads_16 rfl ?_
      have hE : x_mo_leads al rs n xf xt = (3, al, rs) := by simp only [x_mo_leads, if_pos b5, if_neg b13]
      rw [hE]
      exact q_ireturn dX11_leads_17 rfl rfl (by omega) (by omega) ⟨rfl, smo, p0⟩
def x_mo_yields (al : Nat → Int32) (rs : Int32) (n : Nat) (xf : Int32) (xt : Int32) : (Int32) × (Nat → Int32) × (Int32) := (if x_th n al xf then (if x_th n al xt then (if x_mo_isAttack al (x_pl n al xf - 1) (x_pl n al xt - 1) then (let v6 := x_mo_attacks (upd al (31 + (x_pl n al xf - 1)) ((al (31 + (x_pl n al xf - 1))) &&& (((1 : Int32) <<< ((nI (x_pl n al xt - 1)) &&& 31)) ^^^ (-1 : Int32)))) n; (0, upd al (31 + (x_pl n al xf - 1)) ((al (31 + (x_pl n al xf - 1))) &&& (((1 : Int32) <<< ((nI (x_pl n al xt - 1)) &&& 31)) ^^^ (-1 : Int32))), v6)) else (3, al, rs)) else (3, al, rs)) else (3, al, rs))
set_option maxRecDepth 100000 in
set_option maxHeartbeats 8000000 in
theorem e_mo_yields {g : q_G} {h : q_H} {d : Nat} {th : Int32} {al : Nat → Int32} {cg : Nat} {sv : Bool} {rs : Int32} {ac : Int32} {rj : Int32} {ro : Nat → Int32} {ad : Nat → Int32} {bf : Nat → Int32} {ln : Nat → Int32} {lz : Nat} {ip : Nat → Int32} {ty : Nat} {he : Nat} {er : Int32} {ea : Int32} {fa : Int32} {cm : Nat → Int32} {cn : Nat} {n : Nat} {mn : Nat} (smo : z_Mo h 215 th al cg sv rs ac rj ro ad bf ln lz ip ty he er ea fa cm cn n mn)  (xf : Int32) (xt : Int32)   (hd : 3 ≤ d) : q_Spec g mX11_yields d 0 0 [.ref (215), .int (xf), .int (xt)] h (q_chg (.inl (some (.int (x_mo_yields al rs n xf xt).1))) (fun h1 => z_Mo h1 215 th ((x_mo_yields al rs n xf xt).2.1) cg sv ((x_mo_yields al rs n xf xt).2.2) ac rj ro ad bf ln lz ip ty he er ea fa cm cn n mn ∧ q_same h h1 215 8)) := by
  have hb_mo_cg := smo.bcg
  have hb_mo_lz := smo.blz
  have hb_mo_ty := smo.bty
  have hb_mo_he := smo.bhe
  have hb_mo_cn := smo.bcn
  have hb_mo_n := smo.bn
  have hb_mo_mn := smo.bmn
  have ho_mo_cg := smo.bcg
  have ho_mo_lz := smo.blz
  have ho_mo_ty := smo.bty
  have ho_mo_he := smo.bhe
  have ho_mo_cn := smo.bcn
  have ho_mo_n := smo.bn
  have ho_mo_mn := smo.bmn
  have p0 : q_same h h 215 8 := q_same.rfl'
  refine q_enter (by decide +kernel) rfl rfl (Nat.le_of_ble_eq_true rfl) (fun hz => ?_)
  change q_W _ _ _ _ _ _ _ _ _ [.ref (215), .int (xf), .int (xt)] [] _
  refine q_aload_n (by first | assumption | omega | decide | (rw [q_R0e]; omega)) dX11_yields_0 rfl ?_
  refine q_iload_n dX11_yields_1 rfl ?_
  refine q_invV (mc' := 0) (ms' := 0) (d' := d - 1) (as := [.int (xf)]) dX11_yields_2 kM_X11_isThere kL_X11_141 kI_X11_isThere kS_X11_isThere rfl (kC_X11.1) smo.c0 rfl rfl (Nat.le_of_ble_eq_true rfl) (by omega) (by decide) (by omega) (by omega) (e_isThere (d := d - 1) smo xf (by omega)) (q_kR ?_) q_xR
  change q_W _ _ _ _ _ _ _ _ 5 [.ref (215), .int (xf), .int (xt)] [.int (z_b (x_th n al xf))] _
  refine q_if_eq 33 dX11_yields_5 (by decide) (fun b5 => ?_) (fun b5 => ?_)
  · have b5 := z_b0n b5
    have fb5 : x_pl n al xf = 0 := z_nth b5
    refine q_iconst (v := 3) dX11_yields_33 rfl ?_
    have hE : x_mo_yields al rs n xf xt = (3, al, rs) := by simp only [x_mo_yields, if_neg b5]
    rw [hE]
    exact q_ireturn dX11_yields_34 rfl rfl (by omega) (by omega) ⟨rfl, smo, p0⟩
  · have b5 := z_b1 b5
    have fb5 : 0 < x_pl n al xf := z_th b5
    refine q_aload_n (by first | assumption | omega | decide | (rw [q_R0e]; omega)) dX11_yields_8 rfl ?_
    refine q_iload_n dX11_yields_9 rfl ?_
    refine q_invV (mc' := 0) (ms' := 0) (d' := d - 1) (as := [.int (xt)]) dX11_yields_10 kM_X11_isThere kL_X11_141 kI_X11_isThere kS_X11_isThere rfl (kC_X11.1) smo.c0 rfl rfl (Nat.le_of_ble_eq_true rfl) (by omega) (by decide) (by omega) (by omega) (e_isThere (d := d - 1) smo xt (by omega)) (q_kR ?_) q_xR
    change q_W _ _ _ _ _ _ _ _ 13 [.ref (215), .int (xf), .int (xt)] [.int (z_b (x_th n al xt))] _
    refine q_if_eq 33 dX11_yields_13 (by decide) (fun b13 => ?_) (fun b13 => ?_)
    · have b13 := z_b0n b13
      have fb13 : x_pl n al xt = 0 := z_nth b13
      refine q_iconst (v := 3) dX11_yields_33 rfl ?_
      have hE : x_mo_yields al rs n xf xt = (3, al, rs) := by simp only [x_mo_yields, if_pos b5, if_neg b13]
      rw [hE]
      exact q_ireturn dX11_yields_34 rfl rfl (by omega) (by omega) ⟨rfl, smo, p0⟩
    · have b13 := z_b1 b13
      have fb13 : 0 < x_pl n al xt := z_th b13
      refine q_aload_n (by first | assumption | omega | decide | (rw [q_R0e]; omega)) dX11_yields_16 rfl ?_
      refine q_aload_n (by first | assumption | omega | decide | (rw [q_R0e]; omega)) dX11_yields_17 rfl ?_
      refine q_iload_n dX11_yields_18 rfl ?_
      have g1 : x_pl n al xf ≤ n := x_pl_le
      refine q_invV (mc' := 0) (ms' := 0) (d' := d - 1) (as := [.int (xf)]) dX11_yields_19 kM_X11_place kL_X11_57 kI_X11_place kS_X11_place rfl (kC_X11.1) smo.c0 rfl rfl (Nat.le_of_ble_eq_true rfl) (by omega) (by decide) (by omega) (by omega) (e_placeP (d := d - 1) smo xf (by omega) (by omega)) (q_kR ?_) q_xR
      change q_W _ _ _ _ _ _ _ _ 22 [.ref (215), .int (xf), .int (xt)] [.int (nI (x_pl n al xf - 1)), .ref (215)] _
      refine q_aload_n (by first | assumption | omega | decide | (rw [q_R0e]; omega)) dX11_yields_22 rfl ?_
      refine q_iload_n dX11_yields_23 rfl ?_
      have g2 : x_pl n al xt ≤ n := x_pl_le
      refine q_invV (mc' := 0) (ms' := 0) (d' := d - 1) (as := [.int (xt)]) dX11_yields_24 kM_X11_place kL_X11_57 kI_X11_place kS_X11_place rfl (kC_X11.1) smo.c0 rfl rfl (Nat.le_of_ble_eq_true rfl) (by omega) (by decide) (by omega) (by omega) (e_placeP (d := d - 1) smo xt (by omega) (by omega)) (q_kR ?_) q_xR
      change q_W _ _ _ _ _ _ _ _ 27 [.ref (215), .int (xf), .int (xt)] [.int (nI (x_pl n al xt - 1)), .int (nI (x_pl n al xf - 1)), .ref (215)] _
      refine q_invV (mc' := 0) (ms' := 0) (d' := d - 1) (as := [.int (nI (x_pl n al xf - 1)), .int (nI (x_pl n al xt - 1))]) dX11_yields_27 kM_X11_isAttack kL_X11_61 kI_X11_isAttack kS_X11_isAttack rfl (kC_X11.1) smo.c0 rfl rfl (Nat.le_of_ble_eq_true rfl) (by omega) (by decide) (by omega) (by omega) (e_mo_isAttack (d := d - 1) smo (x_pl n al xf - 1) (x_pl n al xt - 1) (by omega) (by omega) (by omega)) (q_kR ?_) q_xR
      change q_W _ _ _ _ _ _ _ _ 30 [.ref (215), .int (xf), .int (xt)] [.int (z_b (x_mo_isAttack al (x_pl n al xf - 1) (x_pl n al xt - 1)))] _
      refine q_if_ne 35 dX11_yields_30 (by decide) (fun b30 => ?_) (fun b30 => ?_)
      · have b30 := z_b1 b30
        refine q_aload_n (by first | assumption | omega | decide | (rw [q_R0e]; omega)) dX11_yields_35 rfl ?_
        refine q_getf (k := 1) (v := .ref (216)) kC_X11 kL_X11_9 rfl (by decide) dX11_yields_36 smo.c0 rfl ?_
        refine q_bipush (v := 31) dX11_yields_39 rfl ?_
        refine q_aload_n (by first | assumption | omega | decide | (rw [q_R0e]; omega)) dX11_yields_41 rfl ?_
        refine q_iload_n dX11_yields_42 rfl ?_
        have g3 : x_pl n al xf ≤ n := x_pl_le
        refine q_invV (mc' := 0) (ms' := 0) (d' := d - 1) (as := [.int (xf)]) dX11_yields_43 kM_X11_place kL_X11_57 kI_X11_place kS_X11_place rfl (kC_X11.1) smo.c0 rfl rfl (Nat.le_of_ble_eq_true rfl) (by omega) (by decide) (by omega) (by omega) (e_placeP (d := d - 1) smo xf (by omega) (by omega)) (q_kR ?_) q_xR
        change q_W _ _ _ _ _ _ _ _ 46 [.ref (215), .int (xf), .int (xt)] [.int (nI (x_pl n al xf - 1)), .int (31), .ref (216)] _
        refine q_iaddN (a := 31) (b := x_pl n al xf - 1) dX11_yields_46 ?_
        change q_W _ _ _ _ _ _ _ _ _ _ [.int (nI (31 + (x_pl n al xf - 1))), .ref (216)] _
        refine q_dup2 dX11_yields_47 rfl rfl ?_
        refine q_ialdN (j := 31 + (x_pl n al xf - 1)) (f := al) dX11_yields_48 smo.c1 (by omega) (by decide) ?_
        change q_W _ _ _ _ _ _ _ _ _ _ [.int (al (31 + (x_pl n al xf - 1))), .int (nI (31 + (x_pl n al xf - 1))), .ref (216)] _
        refine q_iconst (v := 1) dX11_yields_49 rfl ?_
        refine q_aload_n (by first | assumption | omega | decide | (rw [q_R0e]; omega)) dX11_yields_50 rfl ?_
        refine q_iload_n dX11_yields_51 rfl ?_
        have g4 : x_pl n al xt ≤ n := x_pl_le
        refine q_invV (mc' := 0) (ms' := 0) (d' := d - 1) (as := [.int (xt)]) dX11_yields_52 kM_X11_place kL_X11_57 kI_X11_place kS_X11_place rfl (kC_X11.1) smo.c0 rfl rfl (Nat.le_of_ble_eq_true rfl) (by omega) (by decide) (by omega) (by omega) (e_placeP (d := d - 1) smo xt (by omega) (by omega)) (q_kR ?_) q_xR
        change q_W _ _ _ _ _ _ _ _ 55 [.ref (215), .int (xf), .int (xt)] [.int (nI (x_pl n al xt - 1)), .int (1), .int (al (31 + (x_pl n al xf - 1))), .int (nI (31 + (x_pl n al xf - 1))), .ref (216)] _
        refine q_ishl dX11_yields_55 ?_
        refine q_iconst (v := -1) dX11_yields_56 rfl ?_
        refine q_ixor dX11_yields_57 ?_
        refine q_iand dX11_yields_58 ?_
        refine q_iastN (j := 31 + (x_pl n al xf - 1)) dX11_yields_59 smo.c1 (by omega) (by decide) ?_
        refine z_genW (B := fun H => z_Mo H 215 th (upd al (31 + (x_pl n al xf - 1)) ((al (31 + (x_pl n al xf - 1))) &&& (((1 : Int32) <<< ((nI (x_pl n al xt - 1)) &&& 31)) ^^^ (-1 : Int32)))) cg sv rs ac rj ro ad bf ln lz ip ty he er ea fa cm cn n mn ∧ q_same h H 215 8) ⟨z_Mo.put1 smo (n' := n) (mn' := mn) (hbn := by first | omega | (split <;> omega)) (hbmn := by first | omega | (split <;> omega)) (hen := (upd_ne (by omega)).trans smo.en) (hemn := (upd_ne (by omega)).trans smo.emn), p0.trans (q_same.set (by omega) (by omega))⟩ (fun h5 hB => ?_)
        obtain ⟨smo5, p5⟩ := hB
        have hb_mo_cg := smo5.bcg
        have hb_mo_lz := smo5.blz
        have hb_mo_ty := smo5.bty
        have hb_mo_he := smo5.bhe
        have hb_mo_cn := smo5.bcn
        have hb_mo_n := smo5.bn
        have hb_mo_mn := smo5.bmn
        refine q_aload_n (by first | assumption | omega | decide | (rw [q_R0e]; omega)) dX11_yields_60 rfl ?_
        refine q_aload_n (by first | assumption | omega | decide | (rw [q_R0e]; omega)) dX11_yields_61 rfl ?_
        obtain ⟨v6, x6⟩ : ∃ z, x_mo_attacks (upd al (31 + (x_pl n al xf - 1)) ((al (31 + (x_pl n al xf - 1))) &&& (((1 : Int32) <<< ((nI (x_pl n al xt - 1)) &&& 31)) ^^^ (-1 : Int32)))) n = z := ⟨_, rfl⟩
        have e9 := e_mo_attacks (g := g) (h := h5) (d := d - 1) smo5 (by omega)
        rw [x6] at e9
        refine q_invV (mc' := 0) (ms' := 0) (d' := d - 1) (as := []) dX11_yields_62 kM_X11_attacks kL_X11_126 kI_X11_attacks kS_X11_attacks rfl (kC_X11.1) smo5.c0 rfl rfl (Nat.le_of_ble_eq_true rfl) (by omega) (by decide) (by omega) (by omega) (e9) (q_kR ?_) q_xR
        change q_W _ _ _ _ _ _ _ _ 65 [.ref (215), .int (xf), .int (xt)] [.int (v6), .ref (215)] _
        refine q_putf (k := 4) kC_X11 kL_X11_50 rfl (by decide) rfl dX11_yields_65 smo5.c0 (Nat.le_of_ble_eq_true rfl) ⟨rfl, rfl⟩ rfl ?_
        refine z_genW (B := fun H => z_Mo H 215 th (upd al (31 + (x_pl n al xf - 1)) ((al (31 + (x_pl n al xf - 1))) &&& (((1 : Int32) <<< ((nI (x_pl n al xt - 1)) &&& 31)) ^^^ (-1 : Int32)))) cg sv v6 ac rj ro ad bf ln lz ip ty he er ea fa cm cn n mn ∧ q_same h H 215 8) ⟨z_Mo.put0 smo5 (cg' := cg) (sv' := sv) (lz' := lz) (ty' := ty) (he' := he) (cn' := cn) (hbcg := by first | omega | (split <;> omega)) (hblz := by first | omega | (split <;> omega)) (hbty := by first | omega | (split <;> omega)) (hbhe := by first | omega | (split <;> omega)) (hbcn := by first | omega | (split <;> omega)), p5.trans (q_same.set (by omega) (by omega))⟩ (fun h8 hB => ?_)
        obtain ⟨smo8, p8⟩ := hB
        have hb_mo_cg := smo8.bcg
        have hb_mo_lz := smo8.blz
        have hb_mo_ty := smo8.bty
        have hb_mo_he := smo8.bhe
        have hb_mo_cn := smo8.bcn
        have hb_mo_n := smo8.bn
        have hb_mo_mn := smo8.bmn
        refine q_iconst (v := 0) dX11_yields_68 rfl ?_
        have hE : x_mo_yields al rs n xf xt = (0, upd al (31 + (x_pl n al xf - 1)) ((al (31 + (x_pl n al xf - 1))) &&& (((1 : Int32) <<< ((nI (x_pl n al xt - 1)) &&& 31)) ^^^ (-1 : Int32))), v6) := by simp only [x_mo_yields, if_pos b5, if_pos b13, if_pos b30, x6]
        rw [hE]
        exact q_ireturn dX11_yields_69 rfl rfl (by omega) (by omega) ⟨rfl, smo8, p8⟩
      · have b30 := z_b0n b30
        refine q_iconst (v := 3) dX11_yields_33 rfl ?_
        have hE : x_mo_yields al rs n xf xt = (3, al, rs) := by simp only [x_mo_yields, if_pos b5, if_pos b13, if_neg b30]
        rw [hE]
        exact q_ireturn dX11_yields_34 rfl rfl (by omega) (by omega) ⟨rfl, smo, p0⟩
def x_mo_weighs (al : Nat → Int32) (rs : Int32) (n : Nat) (xid : Int32) (xw : Int32) : (Int32) × (Nat → Int32) × (Int32) := (if x_th n al xid then (if x_mo_in xw 1 9 then (0, upd al (7 + (3 * (x_pl n al xid - 1)) + 1) (xw), al (7 + (3 * (x_pl n al xid - 1)) + 1)) else (1, al, rs)) else (3, al, rs))
set_option maxRecDepth 100000 in
set_option maxHeartbeats 8000000 in
theorem e_mo_weighs {g : q_G} {h : q_H} {d : Nat} {th : Int32} {al : Nat → Int32} {cg : Nat} {sv : Bool} {rs : Int32} {ac : Int32} {rj : Int32} {ro : Nat → Int32} {ad : Nat → Int32} {bf : Nat → Int32} {ln : Nat → Int32} {lz : Nat} {ip : Nat → Int32} {ty : Nat} {he : Nat} {er : Int32} {ea : Int32} {fa : Int32} {cm : Nat → Int32} {cn : Nat} {n : Nat} {mn : Nat} (smo : z_Mo h 215 th al cg sv rs ac rj ro ad bf ln lz ip ty he er ea fa cm cn n mn)  (xid : Int32) (xw : Int32)   (hd : 3 ≤ d) : q_Spec g mX11_weighs d 0 0 [.ref (215), .int (xid), .int (xw)] h (q_chg (.inl (some (.int (x_mo_weighs al rs n xid xw).1))) (fun h1 => z_Mo h1 215 th ((x_mo_weighs al rs n xid xw).2.1) cg sv ((x_mo_weighs al rs n xid xw).2.2) ac rj ro ad bf ln lz ip ty he er ea fa cm cn n mn ∧ q_same h h1 215 8)) := by
  have hb_mo_cg := smo.bcg
  have hb_mo_lz := smo.blz
  have hb_mo_ty := smo.bty
  have hb_mo_he := smo.bhe
  have hb_mo_cn := smo.bcn
  have hb_mo_n := smo.bn
  have hb_mo_mn := smo.bmn
  have ho_mo_cg := smo.bcg
  have ho_mo_lz := smo.blz
  have ho_mo_ty := smo.bty
  have ho_mo_he := smo.bhe
  have ho_mo_cn := smo.bcn
  have ho_mo_n := smo.bn
  have ho_mo_mn := smo.bmn
  have p0 : q_same h h 215 8 := q_same.rfl'
  refine q_enter (by decide +kernel) rfl rfl (Nat.le_of_ble_eq_true rfl) (fun hz => ?_)
  change q_W _ _ _ _ _ _ _ _ _ [.ref (215), .int (xid), .int (xw), q_u] [] _
  refine q_aload_n (by first | assumption | omega | decide | (rw [q_R0e]; omega)) dX11_weighs_0 rfl ?_
  refine q_iload_n dX11_weighs_1 rfl ?_
  refine q_invV (mc' := 0) (ms' := 0) (d' := d - 1) (as := [.int (xid)]) dX11_weighs_2 kM_X11_isThere kL_X11_141 kI_X11_isThere kS_X11_isThere rfl (kC_X11.1) smo.c0 rfl rfl (Nat.le_of_ble_eq_true rfl) (by omega) (by decide) (by omega) (by omega) (e_isThere (d := d - 1) smo xid (by omega)) (q_kR ?_) q_xR
  change q_W _ _ _ _ _ _ _ _ 5 [.ref (215), .int (xid), .int (xw), q_u] [.int (z_b (x_th n al xid))] _
  refine q_if_ne 10 dX11_weighs_5 (by decide) (fun b5 => ?_) (fun b5 => ?_)
  · have b5 := z_b1 b5
    have fb5 : 0 < x_pl n al xid := z_th b5
    refine q_iload_n dX11_weighs_10 rfl ?_
    refine q_iconst (v := 1) dX11_weighs_11 rfl ?_
    refine q_bipush (v := 9) dX11_weighs_12 rfl ?_
    refine q_invS (mc' := 0) (ms' := 0) (d' := d - 1) (as := [.int (xw), .int (1), .int (9)]) dX11_weighs_14 kM_X11_in kL_X11_109 kT_X11_in rfl rfl rfl (Nat.le_of_ble_eq_true rfl) (by omega) (by decide) (by omega) (by omega) (e_mo_in (d := d - 1) xw 1 9 (by omega)) (q_kR ?_) q_xR
    change q_W _ _ _ _ _ _ _ _ 17 [.ref (215), .int (xid), .int (xw), q_u] [.int (z_b (x_mo_in xw 1 9))] _
    refine q_if_ne 22 dX11_weighs_17 (by decide) (fun b17 => ?_) (fun b17 => ?_)
    · have b17 := z_b1 b17
      refine q_bipush (v := 7) dX11_weighs_22 rfl ?_
      refine q_iconst (v := 3) dX11_weighs_24 rfl ?_
      refine q_aload_n (by first | assumption | omega | decide | (rw [q_R0e]; omega)) dX11_weighs_25 rfl ?_
      refine q_iload_n dX11_weighs_26 rfl ?_
      have g1 : x_pl n al xid ≤ n := x_pl_le
      refine q_invV (mc' := 0) (ms' := 0) (d' := d - 1) (as := [.int (xid)]) dX11_weighs_27 kM_X11_place kL_X11_57 kI_X11_place kS_X11_place rfl (kC_X11.1) smo.c0 rfl rfl (Nat.le_of_ble_eq_true rfl) (by omega) (by decide) (by omega) (by omega) (e_placeP (d := d - 1) smo xid (by omega) (by omega)) (q_kR ?_) q_xR
      change q_W _ _ _ _ _ _ _ _ 30 [.ref (215), .int (xid), .int (xw), q_u] [.int (nI (x_pl n al xid - 1)), .int (3), .int (7)] _
      refine q_imulN (a := 3) (b := x_pl n al xid - 1) dX11_weighs_30 ?_
      change q_W _ _ _ _ _ _ _ _ _ _ [.int (nI (3 * (x_pl n al xid - 1))), .int (7)] _
      refine q_iaddN (a := 7) (b := 3 * (x_pl n al xid - 1)) dX11_weighs_31 ?_
      change q_W _ _ _ _ _ _ _ _ _ _ [.int (nI (7 + (3 * (x_pl n al xid - 1))))] _
      refine q_iconst (v := 1) dX11_weighs_32 rfl ?_
      refine q_iaddN (a := 7 + (3 * (x_pl n al xid - 1))) (b := 1) dX11_weighs_33 ?_
      change q_W _ _ _ _ _ _ _ _ _ _ [.int (nI (7 + (3 * (x_pl n al xid - 1)) + 1))] _
      refine q_istore_n dX11_weighs_34 (by decide) rfl ?_
      change q_W _ _ _ _ _ _ _ _ _ [.ref (215), .int (xid), .int (xw), .int (nI (7 + (3 * (x_pl n al xid - 1)) + 1))] [] _
      refine q_aload_n (by first | assumption | omega | decide | (rw [q_R0e]; omega)) dX11_weighs_35 rfl ?_
      refine q_aload_n (by first | assumption | omega | decide | (rw [q_R0e]; omega)) dX11_weighs_36 rfl ?_
      refine q_getf (k := 1) (v := .ref (216)) kC_X11 kL_X11_9 rfl (by decide) dX11_weighs_37 smo.c0 rfl ?_
      refine q_iload_n dX11_weighs_40 rfl ?_
      refine q_ialdN (j := 7 + (3 * (x_pl n al xid - 1)) + 1) (f := al) dX11_weighs_41 smo.c1 (by omega) (by decide) ?_
      change q_W _ _ _ _ _ _ _ _ _ _ [.int (al (7 + (3 * (x_pl n al xid - 1)) + 1)), .ref (215)] _
      refine q_putf (k := 4) kC_X11 kL_X11_50 rfl (by decide) rfl dX11_weighs_42 smo.c0 (Nat.le_of_ble_eq_true rfl) ⟨rfl, rfl⟩ rfl ?_
      refine z_genW (B := fun H => z_Mo H 215 th al cg sv (al (7 + (3 * (x_pl n al xid - 1)) + 1)) ac rj ro ad bf ln lz ip ty he er ea fa cm cn n mn ∧ q_same h H 215 8) ⟨z_Mo.put0 smo (cg' := cg) (sv' := sv) (lz' := lz) (ty' := ty) (he' := he) (cn' := cn) (hbcg := by first | omega | (split <;> omega)) (hblz := by first | omega | (split <;> omega)) (hbty := by first | omega | (split <;> omega)) (hbhe := by first | omega | (split <;> omega)) (hbcn := by first | omega | (split <;> omega)), p0.trans (q_same.set (by omega) (by omega))⟩ (fun h2 hB => ?_)
      obtain ⟨smo2, p2⟩ := hB
      have hb_mo_cg := smo2.bcg
      have hb_mo_lz := smo2.blz
      have hb_mo_ty := smo2.bty
      have hb_mo_he := smo2.bhe
      have hb_mo_cn := smo2.bcn
      have hb_mo_n := smo2.bn
      have hb_mo_mn := smo2.bmn
      refine q_aload_n (by first | assumption | omega | decide | (rw [q_R0e]; omega)) dX11_weighs_45 rfl ?_
      refine q_getf (k := 1) (v := .ref (216)) kC_X11 kL_X11_9 rfl (by decide) dX11_weighs_46 smo2.c0 rfl ?_
      refine q_iload_n dX11_weighs_49 rfl ?_
      refine q_iload_n dX11_weighs_50 rfl ?_
      refine q_iastN (j := 7 + (3 * (x_pl n al xid - 1)) + 1) dX11_weighs_51 smo2.c1 (by omega) (by decide) ?_
      refine z_genW (B := fun H => z_Mo H 215 th (upd al (7 + (3 * (x_pl n al xid - 1)) + 1) (xw)) cg sv (al (7 + (3 * (x_pl n al xid - 1)) + 1)) ac rj ro ad bf ln lz ip ty he er ea fa cm cn n mn ∧ q_same h H 215 8) ⟨z_Mo.put1 smo2 (n' := n) (mn' := mn) (hbn := by first | omega | (split <;> omega)) (hbmn := by first | omega | (split <;> omega)) (hen := (upd_ne (by omega)).trans smo2.en) (hemn := (upd_ne (by omega)).trans smo2.emn), p2.trans (q_same.set (by omega) (by omega))⟩ (fun h3 hB => ?_)
      obtain ⟨smo3, p3⟩ := hB
      have hb_mo_cg := smo3.bcg
      have hb_mo_lz := smo3.blz
      have hb_mo_ty := smo3.bty
      have hb_mo_he := smo3.bhe
      have hb_mo_cn := smo3.bcn
      have hb_mo_n := smo3.bn
      have hb_mo_mn := smo3.bmn
      refine q_iconst (v := 0) dX11_weighs_52 rfl ?_
      have hE : x_mo_weighs al rs n xid xw = (0, upd al (7 + (3 * (x_pl n al xid - 1)) + 1) (xw), al (7 + (3 * (x_pl n al xid - 1)) + 1)) := by simp only [x_mo_weighs, if_pos b5, if_pos b17]
      rw [hE]
      exact q_ireturn dX11_weighs_53 rfl rfl (by omega) (by omega) ⟨rfl, smo3, p3⟩
    · have b17 := z_b0n b17
      refine q_iconst (v := 1) dX11_weighs_20 rfl ?_
      have hE : x_mo_weighs al rs n xid xw = (1, al, rs) := by simp only [x_mo_weighs, if_pos b5, if_neg b17]
      rw [hE]
      exact q_ireturn dX11_weighs_21 rfl rfl (by omega) (by omega) ⟨rfl, smo, p0⟩
  · have b5 := z_b0n b5
    have fb5 : x_pl n al xid = 0 := z_nth b5
    refine q_iconst (v := 3) dX11_weighs_8 rfl ?_
    have hE : x_mo_weighs al rs n xid xw = (3, al, rs) := by simp only [x_mo_weighs, if_neg b5]
    rw [hE]
    exact q_ireturn dX11_weighs_9 rfl rfl (by omega) (by omega) ⟨rfl, smo, p0⟩
def x_mo_renews (al : Nat → Int32) (rs : Int32) (n : Nat) (xid : Int32) : (Int32) × (Nat → Int32) × (Int32) := (if x_th n al xid then (0, upd al (7 + (3 * (x_pl n al xid - 1)) + 2) (0), al (7 + (3 * (x_pl n al xid - 1)) + 2)) else (3, al, rs))
set_option maxRecDepth 100000 in
set_option maxHeartbeats 8000000 in
theorem e_mo_renews {g : q_G} {h : q_H} {d : Nat} {th : Int32} {al : Nat → Int32} {cg : Nat} {sv : Bool} {rs : Int32} {ac : Int32} {rj : Int32} {ro : Nat → Int32} {ad : Nat → Int32} {bf : Nat → Int32} {ln : Nat → Int32} {lz : Nat} {ip : Nat → Int32} {ty : Nat} {he : Nat} {er : Int32} {ea : Int32} {fa : Int32} {cm : Nat → Int32} {cn : Nat} {n : Nat} {mn : Nat} (smo : z_Mo h 215 th al cg sv rs ac rj ro ad bf ln lz ip ty he er ea fa cm cn n mn)  (xid : Int32)   (hd : 3 ≤ d) : q_Spec g mX11_renews d 0 0 [.ref (215), .int (xid)] h (q_chg (.inl (some (.int (x_mo_renews al rs n xid).1))) (fun h1 => z_Mo h1 215 th ((x_mo_renews al rs n xid).2.1) cg sv ((x_mo_renews al rs n xid).2.2) ac rj ro ad bf ln lz ip ty he er ea fa cm cn n mn ∧ q_same h h1 215 8)) := by
  have hb_mo_cg := smo.bcg
  have hb_mo_lz := smo.blz
  have hb_mo_ty := smo.bty
  have hb_mo_he := smo.bhe
  have hb_mo_cn := smo.bcn
  have hb_mo_n := smo.bn
  have hb_mo_mn := smo.bmn
  have ho_mo_cg := smo.bcg
  have ho_mo_lz := smo.blz
  have ho_mo_ty := smo.bty
  have ho_mo_he := smo.bhe
  have ho_mo_cn := smo.bcn
  have ho_mo_n := smo.bn
  have ho_mo_mn := smo.bmn
  have p0 : q_same h h 215 8 := q_same.rfl'
  refine q_enter (by decide +kernel) rfl rfl (Nat.le_of_ble_eq_true rfl) (fun hz => ?_)
  change q_W _ _ _ _ _ _ _ _ _ [.ref (215), .int (xid), q_u] [] _
  refine q_aload_n (by first | assumption | omega | decide | (rw [q_R0e]; omega)) dX11_renews_0 rfl ?_
  refine q_iload_n dX11_renews_1 rfl ?_
  refine q_invV (mc' := 0) (ms' := 0) (d' := d - 1) (as := [.int (xid)]) dX11_renews_2 kM_X11_isThere kL_X11_141 kI_X11_isThere kS_X11_isThere rfl (kC_X11.1) smo.c0 rfl rfl (Nat.le_of_ble_eq_true rfl) (by omega) (by decide) (by omega) (by omega) (e_isThere (d := d - 1) smo xid (by omega)) (q_kR ?_) q_xR
  change q_W _ _ _ _ _ _ _ _ 5 [.ref (215), .int (xid), q_u] [.int (z_b (x_th n al xid))] _
  refine q_if_ne 10 dX11_renews_5 (by decide) (fun b5 => ?_) (fun b5 => ?_)
  · have b5 := z_b1 b5
    have fb5 : 0 < x_pl n al xid := z_th b5
    refine q_bipush (v := 7) dX11_renews_10 rfl ?_
    refine q_iconst (v := 3) dX11_renews_12 rfl ?_
    refine q_aload_n (by first | assumption | omega | decide | (rw [q_R0e]; omega)) dX11_renews_13 rfl ?_
    refine q_iload_n dX11_renews_14 rfl ?_
    have g1 : x_pl n al xid ≤ n := x_pl_le
    refine q_invV (mc' := 0) (ms' := 0) (d' := d - 1) (as := [.int (xid)]) dX11_renews_15 kM_X11_place kL_X11_57 kI_X11_place kS_X11_place rfl (kC_X11.1) smo.c0 rfl rfl (Nat.le_of_ble_eq_true rfl) (by omega) (by decide) (by omega) (by omega) (e_placeP (d := d - 1) smo xid (by omega) (by omega)) (q_kR ?_) q_xR
    change q_W _ _ _ _ _ _ _ _ 18 [.ref (215), .int (xid), q_u] [.int (nI (x_pl n al xid - 1)), .int (3), .int (7)] _
    refine q_imulN (a := 3) (b := x_pl n al xid - 1) dX11_renews_18 ?_
    change q_W _ _ _ _ _ _ _ _ _ _ [.int (nI (3 * (x_pl n al xid - 1))), .int (7)] _
    refine q_iaddN (a := 7) (b := 3 * (x_pl n al xid - 1)) dX11_renews_19 ?_
    change q_W _ _ _ _ _ _ _ _ _ _ [.int (nI (7 + (3 * (x_pl n al xid - 1))))] _
    refine q_iconst (v := 2) dX11_renews_20 rfl ?_
    refine q_iaddN (a := 7 + (3 * (x_pl n al xid - 1))) (b := 2) dX11_renews_21 ?_
    change q_W _ _ _ _ _ _ _ _ _ _ [.int (nI (7 + (3 * (x_pl n al xid - 1)) + 2))] _
    refine q_istore_n dX11_renews_22 (by decide) rfl ?_
    change q_W _ _ _ _ _ _ _ _ _ [.ref (215), .int (xid), .int (nI (7 + (3 * (x_pl n al xid - 1)) + 2))] [] _
    refine q_aload_n (by first | assumption | omega | decide | (rw [q_R0e]; omega)) dX11_renews_23 rfl ?_
    refine q_aload_n (by first | assumption | omega | decide | (rw [q_R0e]; omega)) dX11_renews_24 rfl ?_
    refine q_getf (k := 1) (v := .ref (216)) kC_X11 kL_X11_9 rfl (by decide) dX11_renews_25 smo.c0 rfl ?_
    refine q_iload_n dX11_renews_28 rfl ?_
    refine q_ialdN (j := 7 + (3 * (x_pl n al xid - 1)) + 2) (f := al) dX11_renews_29 smo.c1 (by omega) (by decide) ?_
    change q_W _ _ _ _ _ _ _ _ _ _ [.int (al (7 + (3 * (x_pl n al xid - 1)) + 2)), .ref (215)] _
    refine q_putf (k := 4) kC_X11 kL_X11_50 rfl (by decide) rfl dX11_renews_30 smo.c0 (Nat.le_of_ble_eq_true rfl) ⟨rfl, rfl⟩ rfl ?_
    refine z_genW (B := fun H => z_Mo H 215 th al cg sv (al (7 + (3 * (x_pl n al xid - 1)) + 2)) ac rj ro ad bf ln lz ip ty he er ea fa cm cn n mn ∧ q_same h H 215 8) ⟨z_Mo.put0 smo (cg' := cg) (sv' := sv) (lz' := lz) (ty' := ty) (he' := he) (cn' := cn) (hbcg := by first | omega | (split <;> omega)) (hblz := by first | omega | (split <;> omega)) (hbty := by first | omega | (split <;> omega)) (hbhe := by first | omega | (split <;> omega)) (hbcn := by first | omega | (split <;> omega)), p0.trans (q_same.set (by omega) (by omega))⟩ (fun h2 hB => ?_)
    obtain ⟨smo2, p2⟩ := hB
    have hb_mo_cg := smo2.bcg
    have hb_mo_lz := smo2.blz
    have hb_mo_ty := smo2.bty
    have hb_mo_he := smo2.bhe
    have hb_mo_cn := smo2.bcn
    have hb_mo_n := smo2.bn
    have hb_mo_mn := smo2.bmn
    refine q_aload_n (by first | assumption | omega | decide | (rw [q_R0e]; omega)) dX11_renews_33 rfl ?_
    refine q_getf (k := 1) (v := .ref (216)) kC_X11 kL_X11_9 rfl (by decide) dX11_renews_34 smo2.c0 rfl ?_
    refine q_iload_n dX11_renews_37 rfl ?_
    refine q_iconst (v := 0) dX11_renews_38 rfl ?_
    refine q_iastN (j := 7 + (3 * (x_pl n al xid - 1)) + 2) dX11_renews_39 smo2.c1 (by omega) (by decide) ?_
    refine z_genW (B := fun H => z_Mo H 215 th (upd al (7 + (3 * (x_pl n al xid - 1)) + 2) (0)) cg sv (al (7 + (3 * (x_pl n al xid - 1)) + 2)) ac rj ro ad bf ln lz ip ty he er ea fa cm cn n mn ∧ q_same h H 215 8) ⟨z_Mo.put1 smo2 (n' := n) (mn' := mn) (hbn := by first | omega | (split <;> omega)) (hbmn := by first | omega | (split <;> omega)) (hen := (upd_ne (by omega)).trans smo2.en) (hemn := (upd_ne (by omega)).trans smo2.emn), p2.trans (q_same.set (by omega) (by omega))⟩ (fun h3 hB => ?_)
    obtain ⟨smo3, p3⟩ := hB
    have hb_mo_cg := smo3.bcg
    have hb_mo_lz := smo3.blz
    have hb_mo_ty := smo3.bty
    have hb_mo_he := smo3.bhe
    have hb_mo_cn := smo3.bcn
    have hb_mo_n := smo3.bn
    have hb_mo_mn := smo3.bmn
    refine q_iconst (v := 0) dX11_renews_40 rfl ?_
    have hE : x_mo_renews al rs n xid = (0, upd al (7 + (3 * (x_pl n al xid - 1)) + 2) (0), al (7 + (3 * (x_pl n al xid - 1)) + 2)) := by simp only [x_mo_renews, if_pos b5]
    rw [hE]
    exact q_ireturn dX11_renews_41 rfl rfl (by omega) (by omega) ⟨rfl, smo3, p3⟩
  · have b5 := z_b0n b5
    have fb5 : x_pl n al xid = 0 := z_nth b5
    refine q_iconst (v := 3) dX11_renews_8 rfl ?_
    have hE : x_mo_renews al rs n xid = (3, al, rs) := by simp only [x_mo_renews, if_neg b5]
    rw [hE]
    exact q_ireturn dX11_renews_9 rfl rfl (by omega) (by omega) ⟨rfl, smo, p0⟩
def x_mo_claims (al : Nat → Int32) (rs : Int32) (n : Nat) (mn : Nat) (xid : Int32) : (Int32) × (Nat → Int32) × (Int32) × (Nat) := (if x_th n al xid then (if mn ≤ 0 then (let v4 := x_mo_attackers (upd (upd al 39 (xid)) 3 (1)) n (x_pl n al xid - 1); (0, upd (upd al 39 (xid)) 3 (1), x_mo_size v4, 1)) else (2, al, rs, mn)) else (3, al, rs, mn))
set_option maxRecDepth 100000 in
set_option maxHeartbeats 8000000 in
theorem e_mo_claims {g : q_G} {h : q_H} {d : Nat} {th : Int32} {al : Nat → Int32} {cg : Nat} {sv : Bool} {rs : Int32} {ac : Int32} {rj : Int32} {ro : Nat → Int32} {ad : Nat → Int32} {bf : Nat → Int32} {ln : Nat → Int32} {lz : Nat} {ip : Nat → Int32} {ty : Nat} {he : Nat} {er : Int32} {ea : Int32} {fa : Int32} {cm : Nat → Int32} {cn : Nat} {n : Nat} {mn : Nat} (smo : z_Mo h 215 th al cg sv rs ac rj ro ad bf ln lz ip ty he er ea fa cm cn n mn)  (xid : Int32)   (hd : 4 ≤ d) : q_Spec g mX11_claims d 0 0 [.ref (215), .int (xid)] h (q_chg (.inl (some (.int (x_mo_claims al rs n mn xid).1))) (fun h1 => z_Mo h1 215 th ((x_mo_claims al rs n mn xid).2.1) cg sv ((x_mo_claims al rs n mn xid).2.2.1) ac rj ro ad bf ln lz ip ty he er ea fa cm cn n ((x_mo_claims al rs n mn xid).2.2.2) ∧ q_same h h1 215 8)) := by
  have hb_mo_cg := smo.bcg
  have hb_mo_lz := smo.blz
  have hb_mo_ty := smo.bty
  have hb_mo_he := smo.bhe
  have hb_mo_cn := smo.bcn
  have hb_mo_n := smo.bn
  have hb_mo_mn := smo.bmn
  have ho_mo_cg := smo.bcg
  have ho_mo_lz := smo.blz
  have ho_mo_ty := smo.bty
  have ho_mo_he := smo.bhe
  have ho_mo_cn := smo.bcn
  have ho_mo_n := smo.bn
  have ho_mo_mn := smo.bmn
  have p0 : q_same h h 215 8 := q_same.rfl'
  refine q_enter (by decide +kernel) rfl rfl (Nat.le_of_ble_eq_true rfl) (fun hz => ?_)
  change q_W _ _ _ _ _ _ _ _ _ [.ref (215), .int (xid)] [] _
  refine q_aload_n (by first | assumption | omega | decide | (rw [q_R0e]; omega)) dX11_claims_0 rfl ?_
  refine q_iload_n dX11_claims_1 rfl ?_
  refine q_invV (mc' := 0) (ms' := 0) (d' := d - 1) (as := [.int (xid)]) dX11_claims_2 kM_X11_isThere kL_X11_141 kI_X11_isThere kS_X11_isThere rfl (kC_X11.1) smo.c0 rfl rfl (Nat.le_of_ble_eq_true rfl) (by omega) (by decide) (by omega) (by omega) (e_isThere (d := d - 1) smo xid (by omega)) (q_kR ?_) q_xR
  change q_W _ _ _ _ _ _ _ _ 5 [.ref (215), .int (xid)] [.int (z_b (x_th n al xid))] _
  refine q_if_ne 10 dX11_claims_5 (by decide) (fun b5 => ?_) (fun b5 => ?_)
  · have b5 := z_b1 b5
    have fb5 : 0 < x_pl n al xid := z_th b5
    refine q_aload_n (by first | assumption | omega | decide | (rw [q_R0e]; omega)) dX11_claims_10 rfl ?_
    refine q_getf (k := 1) (v := .ref (216)) kC_X11 kL_X11_9 rfl (by decide) dX11_claims_11 smo.c0 rfl ?_
    refine q_iconst (v := 3) dX11_claims_14 rfl ?_
    refine q_ialdN (j := 3) (f := al) dX11_claims_15 smo.c1 (by omega) (by decide) ?_
    rw [smo.emn]
    change q_W _ _ _ _ _ _ _ _ _ _ [.int (nI (mn))] _
    refine q_if_le 21 dX11_claims_16 (by decide) (fun b16 => ?_) (fun b16 => ?_)
    · have b16 := (nI_leI (a := mn) (b := 0) (by omega) (by omega)).mp b16
      refine q_aload_n (by first | assumption | omega | decide | (rw [q_R0e]; omega)) dX11_claims_21 rfl ?_
      refine q_getf (k := 1) (v := .ref (216)) kC_X11 kL_X11_9 rfl (by decide) dX11_claims_22 smo.c0 rfl ?_
      refine q_bipush (v := 39) dX11_claims_25 rfl ?_
      refine q_iload_n dX11_claims_27 rfl ?_
      refine q_iastN (j := 39) dX11_claims_28 smo.c1 (by omega) (by decide) ?_
      refine z_genW (B := fun H => z_Mo H 215 th (upd al 39 (xid)) cg sv rs ac rj ro ad bf ln lz ip ty he er ea fa cm cn n mn ∧ q_same h H 215 8) ⟨z_Mo.put1 smo (n' := n) (mn' := mn) (hbn := by first | omega | (split <;> omega)) (hbmn := by first | omega | (split <;> omega)) (hen := (upd_ne (by omega)).trans smo.en) (hemn := (upd_ne (by omega)).trans smo.emn), p0.trans (q_same.set (by omega) (by omega))⟩ (fun h1 hB => ?_)
      obtain ⟨smo1, p1⟩ := hB
      have hb_mo_cg := smo1.bcg
      have hb_mo_lz := smo1.blz
      have hb_mo_ty := smo1.bty
      have hb_mo_he := smo1.bhe
      have hb_mo_cn := smo1.bcn
      have hb_mo_n := smo1.bn
      have hb_mo_mn := smo1.bmn
      refine q_aload_n (by first | assumption | omega | decide | (rw [q_R0e]; omega)) dX11_claims_29 rfl ?_
      refine q_getf (k := 1) (v := .ref (216)) kC_X11 kL_X11_9 rfl (by decide) dX11_claims_30 smo1.c0 rfl ?_
      refine q_iconst (v := 3) dX11_claims_33 rfl ?_
      refine q_iconst (v := 1) dX11_claims_34 rfl ?_
      refine q_iastN (j := 3) dX11_claims_35 smo1.c1 (by omega) (by decide) ?_
      refine z_genW (B := fun H => z_Mo H 215 th (upd (upd al 39 (xid)) 3 (1)) cg sv rs ac rj ro ad bf ln lz ip ty he er ea fa cm cn n 1 ∧ q_same h H 215 8) ⟨z_Mo.put1 smo1 (n' := n) (mn' := 1) (hbn := by first | omega | (split <;> omega)) (hbmn := by first | omega | (split <;> omega)) (hen := (upd_ne (by omega)).trans smo1.en) (hemn := upd_eq), p1.trans (q_same.set (by omega) (by omega))⟩ (fun h2 hB => ?_)
      obtain ⟨smo2, p2⟩ := hB
      have hb_mo_cg := smo2.bcg
      have hb_mo_lz := smo2.blz
      have hb_mo_ty := smo2.bty
      have hb_mo_he := smo2.bhe
      have hb_mo_cn := smo2.bcn
      have hb_mo_n := smo2.bn
      refine q_aload_n (by first | assumption | omega | decide | (rw [q_R0e]; omega)) dX11_claims_36 rfl ?_
      refine q_aload_n (by first | assumption | omega | decide | (rw [q_R0e]; omega)) dX11_claims_37 rfl ?_
      refine q_aload_n (by first | assumption | omega | decide | (rw [q_R0e]; omega)) dX11_claims_38 rfl ?_
      refine q_iload_n dX11_claims_39 rfl ?_
      have g3 : x_pl n al xid ≤ n := x_pl_le
      refine q_invV (mc' := 0) (ms' := 0) (d' := d - 1) (as := [.int (xid)]) dX11_claims_40 kM_X11_place kL_X11_57 kI_X11_place kS_X11_place rfl (kC_X11.1) smo2.c0 rfl rfl (Nat.le_of_ble_eq_true rfl) (by omega) (by decide) (by omega) (by omega) ((by have e9 := e_placeP (g := g) (d := d - 1) smo2 xid (by rw [x_pl_upd 3 (by omega) (by omega), x_pl_upd 39 (by omega) (by omega)]; omega) (by omega); rw [x_pl_upd 3 (by omega) (by omega), x_pl_upd 39 (by omega) (by omega)] at e9; exact e9)) (q_kR ?_) q_xR
      change q_W _ _ _ _ _ _ _ _ 43 [.ref (215), .int (xid)] [.int (nI (x_pl n al xid - 1)), .ref (215), .ref (215)] _
      obtain ⟨v4, x4⟩ : ∃ z, x_mo_attackers (upd (upd al 39 (xid)) 3 (1)) n (x_pl n al xid - 1) = z := ⟨_, rfl⟩
      have e9 := e_mo_attackers (g := g) (h := h2) (d := d - 1) smo2 (x_pl n al xid - 1) (by omega) (by omega)
      rw [x4] at e9
      refine q_invV (mc' := 0) (ms' := 0) (d' := d - 1) (as := [.int (nI (x_pl n al xid - 1))]) dX11_claims_43 kM_X11_attackers kL_X11_80 kI_X11_attackers kS_X11_attackers rfl (kC_X11.1) smo2.c0 rfl rfl (Nat.le_of_ble_eq_true rfl) (by omega) (by decide) (by omega) (by omega) (e9) (q_kR ?_) q_xR
      change q_W _ _ _ _ _ _ _ _ 46 [.ref (215), .int (xid)] [.int (v4), .ref (215)] _
      refine q_invS (mc' := 0) (ms' := 0) (d' := d - 1) (as := [.int (v4)]) dX11_claims_46 kM_X11_size kL_X11_68 kT_X11_size rfl rfl rfl (Nat.le_of_ble_eq_true rfl) (by omega) (by decide) (by omega) (by omega) (e_mo_size (d := d - 1) v4 (by omega)) (q_kR ?_) q_xR
      change q_W _ _ _ _ _ _ _ _ 49 [.ref (215), .int (xid)] [.int (x_mo_size v4), .ref (215)] _
      refine q_putf (k := 4) kC_X11 kL_X11_50 rfl (by decide) rfl dX11_claims_49 smo2.c0 (Nat.le_of_ble_eq_true rfl) ⟨rfl, rfl⟩ rfl ?_
      refine z_genW (B := fun H => z_Mo H 215 th (upd (upd al 39 (xid)) 3 (1)) cg sv (x_mo_size v4) ac rj ro ad bf ln lz ip ty he er ea fa cm cn n 1 ∧ q_same h H 215 8) ⟨z_Mo.put0 smo2 (cg' := cg) (sv' := sv) (lz' := lz) (ty' := ty) (he' := he) (cn' := cn) (hbcg := by first | omega | (split <;> omega)) (hblz := by first | omega | (split <;> omega)) (hbty := by first | omega | (split <;> omega)) (hbhe := by first | omega | (split <;> omega)) (hbcn := by first | omega | (split <;> omega)), p2.trans (q_same.set (by omega) (by omega))⟩ (fun h6 hB => ?_)
      obtain ⟨smo6, p6⟩ := hB
      have hb_mo_cg := smo6.bcg
      have hb_mo_lz := smo6.blz
      have hb_mo_ty := smo6.bty
      have hb_mo_he := smo6.bhe
      have hb_mo_cn := smo6.bcn
      have hb_mo_n := smo6.bn
      refine q_iconst (v := 0) dX11_claims_52 rfl ?_
      have hE : x_mo_claims al rs n mn xid = (0, upd (upd al 39 (xid)) 3 (1), x_mo_size v4, 1) := by simp only [x_mo_claims, if_pos b5, if_pos b16, x4]
      rw [hE]
      exact q_ireturn dX11_claims_53 rfl rfl (by omega) (by omega) ⟨rfl, smo6, p6⟩
    · have b16 : ¬ (mn ≤ 0) := fun q => b16 ((nI_leI (a := mn) (b := 0) (by omega) (by omega)).mpr q)
      refine q_iconst (v := 2) dX11_claims_19 rfl ?_
      have hE : x_mo_claims al rs n mn xid = (2, al, rs, mn) := by simp only [x_mo_claims, if_pos b5, if_neg b16]
      rw [hE]
      exact q_ireturn dX11_claims_20 rfl rfl (by omega) (by omega) ⟨rfl, smo, p0⟩
  · have b5 := z_b0n b5
    have fb5 : x_pl n al xid = 0 := z_nth b5
    refine q_iconst (v := 3) dX11_claims_8 rfl ?_
    have hE : x_mo_claims al rs n mn xid = (3, al, rs, mn) := by simp only [x_mo_claims, if_neg b5]
    rw [hE]
    exact q_ireturn dX11_claims_9 rfl rfl (by omega) (by omega) ⟨rfl, smo, p0⟩
def x_mo_isAllowed_47 (al : Nat → Int32) (mn : Nat) (xid : Int32) : Nat → Nat → (Bool) → (Bool)
  | 0, _, c47_4 => c47_4
  | r + 1, k, c47_4 => (if mn ≤ k then c47_4 else (if mn % 2 = 0 then (if (al (39 + k)) = (xid) then x_mo_isAllowed_47 al mn xid r (k + 2) (c47_4 && false) else x_mo_isAllowed_47 al mn xid r (k + 2) (c47_4 && true)) else c47_4))
set_option maxRecDepth 100000 in
set_option maxHeartbeats 8000000 in
theorem l_mo_isAllowed_47 {g : q_G} {h : q_H} {d mc ms kc ks : Nat} {Q : q_O → q_H → Prop} {th : Int32} {al : Nat → Int32} {cg : Nat} {sv : Bool} {rs : Int32} {ac : Int32} {rj : Int32} {ro : Nat → Int32} {ad : Nat → Int32} {bf : Nat → Int32} {ln : Nat → Int32} {lz : Nat} {ip : Nat → Int32} {ty : Nat} {he : Nat} {er : Int32} {ea : Int32} {fa : Int32} {cm : Nat → Int32} {cn : Nat} {n : Nat} {mn : Nat} {xid : Int32} (smo : z_Mo h 215 th al cg sv rs ac rj ro ad bf ln lz ip ty he er ea fa cm cn n mn)  (hm0 : 0 < mn) (hl : 0 < x_pl n al (al (39 + mn - 1))) (hid : 0 < x_pl n al xid) (ho_mo_cg : cg ≤ 8) (ho_mo_lz : lz ≤ 160) (ho_mo_ty : ty ≤ 60) (ho_mo_he : he ≤ 60) (ho_mo_cn : cn ≤ 61) (ho_mo_n : n ≤ 8) (ho_mo_mn : mn ≤ 12) (g1 : x_pl n al (al (39 + mn - 1)) ≤ n) (g2 : x_pl n al xid ≤ n)  (hd : 0 ≤ d) (hkc : kc + 0 ≤ mc) (hks : ks + 0 ≤ ms) : ∀ (r k : Nat) (c47_4 : Bool) (hk_47 : mn ≤ k + 2 * r ∧ k ≤ mn + 2) (K : ∀ (r47_0 : Bool), x_mo_isAllowed_47 al mn xid r k c47_4 = r47_0 → q_W g mX11_isAllowed d mc ms Q kc ks 89 [q_u, q_u, q_u, q_u, .int (z_b (r47_0)), q_u] [] h), q_W g mX11_isAllowed d mc ms Q kc ks 47 [.ref (215), .int (xid), .int (nI (mn)), q_u, .int (z_b (c47_4)), .int (nI (k))] [] h := by
  intro r
  induction r with
  | zero =>
    intro k c47_4  hk_47 K
    have hb_mo_cg := smo.bcg
    have hb_mo_lz := smo.blz
    have hb_mo_ty := smo.bty
    have hb_mo_he := smo.bhe
    have hb_mo_cn := smo.bcn
    have hb_mo_n := smo.bn
    have hb_mo_mn := smo.bmn
    refine q_iload dX11_isAllowed_47 rfl ?_
    refine q_iload_n dX11_isAllowed_49 rfl ?_
    refine q_icmp_ge 89 dX11_isAllowed_50 (by decide) (fun b50 => ?_) (fun b50 => ?_)
    · have b50 := (nI_leI (a := mn) (b := k) (by omega) (by omega)).mp b50
      refine q_forget 0 ?_
      refine q_forget 1 ?_
      refine q_forget 2 ?_
      refine q_forget 5 ?_
      change q_W _ _ _ _ _ _ _ _ _ [q_u, q_u, q_u, q_u, .int (z_b (c47_4)), q_u] [] _
      exact K c47_4 (by simp only [x_mo_isAllowed_47])
    · have b50 : ¬ (mn ≤ k) := fun q => b50 ((nI_leI (a := mn) (b := k) (by omega) (by omega)).mpr q)
      exact absurd b50 (by omega)
  | succ r ih =>
    intro k c47_4  hk_47 K
    have hb_mo_cg := smo.bcg
    have hb_mo_lz := smo.blz
    have hb_mo_ty := smo.bty
    have hb_mo_he := smo.bhe
    have hb_mo_cn := smo.bcn
    have hb_mo_n := smo.bn
    have hb_mo_mn := smo.bmn
    refine q_iload dX11_isAllowed_47 rfl ?_
    refine q_iload_n dX11_isAllowed_49 rfl ?_
    refine q_icmp_ge 89 dX11_isAllowed_50 (by decide) (fun b50 => ?_) (fun b50 => ?_)
    · have b50 := (nI_leI (a := mn) (b := k) (by omega) (by omega)).mp b50
      refine q_forget 0 ?_
      refine q_forget 1 ?_
      refine q_forget 2 ?_
      refine q_forget 5 ?_
      change q_W _ _ _ _ _ _ _ _ _ [q_u, q_u, q_u, q_u, .int (z_b (c47_4)), q_u] [] _
      exact K c47_4 (by simp only [x_mo_isAllowed_47, if_pos b50])
    · have b50 : ¬ (mn ≤ k) := fun q => b50 ((nI_leI (a := mn) (b := k) (by omega) (by omega)).mpr q)
      refine q_iload_n dX11_isAllowed_53 rfl ?_
      refine q_iconst (v := 2) dX11_isAllowed_54 rfl ?_
      refine q_iremN (a := mn) (b := 2) (by omega) (by decide) (by decide) dX11_isAllowed_55 ?_
      refine q_if_ne 89 dX11_isAllowed_56 (by decide) (fun b56 => ?_) (fun b56 => ?_)
      · have b56 : ¬ (mn % 2 = 0) := fun q => b56 ((nI_eq (a := mn % 2) (b := 0) (by omega) (by omega)).mpr q)
        refine q_forget 0 ?_
        refine q_forget 1 ?_
        refine q_forget 2 ?_
        refine q_forget 5 ?_
        change q_W _ _ _ _ _ _ _ _ _ [q_u, q_u, q_u, q_u, .int (z_b (c47_4)), q_u] [] _
        exact K c47_4 (by simp only [x_mo_isAllowed_47, if_neg b50, if_neg b56])
      · have b56 := (nI_eq (a := mn % 2) (b := 0) (by omega) (by omega)).mp b56
        refine q_iload dX11_isAllowed_59 rfl ?_
        refine q_aload_n (by first | assumption | omega | decide | (rw [q_R0e]; omega)) dX11_isAllowed_61 rfl ?_
        refine q_getf (k := 1) (v := .ref (216)) kC_X11 kL_X11_9 rfl (by decide) dX11_isAllowed_62 smo.c0 rfl ?_
        refine q_bipush (v := 39) dX11_isAllowed_65 rfl ?_
        refine q_iload dX11_isAllowed_67 rfl ?_
        refine q_iaddN (a := 39) (b := k) dX11_isAllowed_69 ?_
        change q_W _ _ _ _ _ _ _ _ _ _ [.int (nI (39 + k)), .ref (216), .int (z_b (c47_4))] _
        refine q_ialdN (j := 39 + k) (f := al) dX11_isAllowed_70 smo.c1 (by omega) (by decide) ?_
        change q_W _ _ _ _ _ _ _ _ _ _ [.int (al (39 + k)), .int (z_b (c47_4))] _
        refine q_iload_n dX11_isAllowed_71 rfl ?_
        refine q_icmp_eq 79 dX11_isAllowed_72 (by decide) (fun b72 => ?_) (fun b72 => ?_)
        · refine q_iconst (v := 0) dX11_isAllowed_79 rfl ?_
          change q_W _ _ _ _ _ _ _ _ _ _ (.int (z_b (false)) :: .int (z_b (c47_4)) :: []) _
          refine q_iand dX11_isAllowed_80 ?_
          rw [z_band]
          refine q_istore dX11_isAllowed_81 (by decide) rfl ?_
          change q_W _ _ _ _ _ _ _ _ _ [.ref (215), .int (xid), .int (nI (mn)), q_u, .int (z_b ((c47_4 && false))), .int (nI (k))] [] _
          refine q_iinc (x := nI (k)) (v := nI (k + 2)) dX11_isAllowed_83 rfl (nI_add _ 2) rfl ?_
          change q_W _ _ _ _ _ _ _ _ _ [.ref (215), .int (xid), .int (nI (mn)), q_u, .int (z_b ((c47_4 && false))), .int (nI (k + 2))] [] _
          refine q_goto 47 dX11_isAllowed_86 (by decide) ?_
          change q_W _ _ _ _ _ _ _ _ _ [.ref (215), .int (xid), .int (nI (mn)), q_u, .int (z_b ((c47_4 && false))), .int (nI (k + 2))] [] _
          exact ih (k + 2) (c47_4 && false) (by omega) (fun r47_0 e9 => K r47_0 (by simp only [x_mo_isAllowed_47, if_neg b50, if_pos b56, if_pos b72]; exact e9))
        · refine q_iconst (v := 1) dX11_isAllowed_75 rfl ?_
          refine q_goto 80 dX11_isAllowed_76 (by decide) ?_
          change q_W _ _ _ _ _ _ _ _ _ _ (.int (z_b (true)) :: .int (z_b (c47_4)) :: []) _
          refine q_iand dX11_isAllowed_80 ?_
          rw [z_band]
          refine q_istore dX11_isAllowed_81 (by decide) rfl ?_
          change q_W _ _ _ _ _ _ _ _ _ [.ref (215), .int (xid), .int (nI (mn)), q_u, .int (z_b ((c47_4 && true))), .int (nI (k))] [] _
          refine q_iinc (x := nI (k)) (v := nI (k + 2)) dX11_isAllowed_83 rfl (nI_add _ 2) rfl ?_
          change q_W _ _ _ _ _ _ _ _ _ [.ref (215), .int (xid), .int (nI (mn)), q_u, .int (z_b ((c47_4 && true))), .int (nI (k + 2))] [] _
          refine q_goto 47 dX11_isAllowed_86 (by decide) ?_
          change q_W _ _ _ _ _ _ _ _ _ [.ref (215), .int (xid), .int (nI (mn)), q_u, .int (z_b ((c47_4 && true))), .int (nI (k + 2))] [] _
          exact ih (k + 2) (c47_4 && true) (by omega) (fun r47_0 e9 => K r47_0 (by simp only [x_mo_isAllowed_47, if_neg b50, if_pos b56, if_neg b72]; exact e9))
def x_mo_isAllowed (al : Nat → Int32) (n : Nat) (mn : Nat) (xid : Int32) : Bool := (if (((x_mo_attackers al n (x_pl n al (al (39 + mn - 1)) - 1)) >>> ((nI (x_pl n al xid - 1)) &&& 31)) &&& (1 : Int32)) = (0) then false else (let a3_0 := x_mo_isAllowed_47 al mn xid mn 0 true; a3_0))
set_option maxRecDepth 100000 in
set_option maxHeartbeats 8000000 in
theorem e_mo_isAllowed {g : q_G} {h : q_H} {d : Nat} {th : Int32} {al : Nat → Int32} {cg : Nat} {sv : Bool} {rs : Int32} {ac : Int32} {rj : Int32} {ro : Nat → Int32} {ad : Nat → Int32} {bf : Nat → Int32} {ln : Nat → Int32} {lz : Nat} {ip : Nat → Int32} {ty : Nat} {he : Nat} {er : Int32} {ea : Int32} {fa : Int32} {cm : Nat → Int32} {cn : Nat} {n : Nat} {mn : Nat} (smo : z_Mo h 215 th al cg sv rs ac rj ro ad bf ln lz ip ty he er ea fa cm cn n mn)  (xid : Int32) (hm0 : 0 < mn) (hl : 0 < x_pl n al (al (39 + mn - 1))) (hid : 0 < x_pl n al xid)  (hd : 4 ≤ d) : q_Spec g mX11_isAllowed d 0 0 [.ref (215), .int (xid)] h (q_ret ((some (.int (z_b (x_mo_isAllowed al n mn xid))))) h) := by
  have hb_mo_cg := smo.bcg
  have hb_mo_lz := smo.blz
  have hb_mo_ty := smo.bty
  have hb_mo_he := smo.bhe
  have hb_mo_cn := smo.bcn
  have hb_mo_n := smo.bn
  have hb_mo_mn := smo.bmn
  have ho_mo_cg := smo.bcg
  have ho_mo_lz := smo.blz
  have ho_mo_ty := smo.bty
  have ho_mo_he := smo.bhe
  have ho_mo_cn := smo.bcn
  have ho_mo_n := smo.bn
  have ho_mo_mn := smo.bmn
  refine q_enter (by decide +kernel) rfl rfl (Nat.le_of_ble_eq_true rfl) (fun hz => ?_)
  change q_W _ _ _ _ _ _ _ _ _ [.ref (215), .int (xid), q_u, q_u, q_u, q_u] [] _
  refine q_aload_n (by first | assumption | omega | decide | (rw [q_R0e]; omega)) dX11_isAllowed_0 rfl ?_
  refine q_getf (k := 1) (v := .ref (216)) kC_X11 kL_X11_9 rfl (by decide) dX11_isAllowed_1 smo.c0 rfl ?_
  refine q_iconst (v := 3) dX11_isAllowed_4 rfl ?_
  refine q_ialdN (j := 3) (f := al) dX11_isAllowed_5 smo.c1 (by omega) (by decide) ?_
  rw [smo.emn]
  change q_W _ _ _ _ _ _ _ _ _ _ [.int (nI (mn))] _
  refine q_istore_n dX11_isAllowed_6 (by decide) rfl ?_
  change q_W _ _ _ _ _ _ _ _ _ [.ref (215), .int (xid), .int (nI (mn)), q_u, q_u, q_u] [] _
  refine q_aload_n (by first | assumption | omega | decide | (rw [q_R0e]; omega)) dX11_isAllowed_7 rfl ?_
  refine q_aload_n (by first | assumption | omega | decide | (rw [q_R0e]; omega)) dX11_isAllowed_8 rfl ?_
  refine q_getf (k := 1) (v := .ref (216)) kC_X11 kL_X11_9 rfl (by decide) dX11_isAllowed_9 smo.c0 rfl ?_
  refine q_bipush (v := 39) dX11_isAllowed_12 rfl ?_
  refine q_iload_n dX11_isAllowed_14 rfl ?_
  refine q_iaddN (a := 39) (b := mn) dX11_isAllowed_15 ?_
  change q_W _ _ _ _ _ _ _ _ _ _ [.int (nI (39 + mn)), .ref (216), .ref (215)] _
  refine q_iconst (v := 1) dX11_isAllowed_16 rfl ?_
  refine q_isubN (a := 39 + mn) (b := 1) (by omega) dX11_isAllowed_17 ?_
  refine q_ialdN (j := 39 + mn - 1) (f := al) dX11_isAllowed_18 smo.c1 (by omega) (by decide) ?_
  change q_W _ _ _ _ _ _ _ _ _ _ [.int (al (39 + mn - 1)), .ref (215)] _
  have g1 : x_pl n al (al (39 + mn - 1)) ≤ n := x_pl_le
  refine q_invV (mc' := 0) (ms' := 0) (d' := d - 1) (as := [.int (al (39 + mn - 1))]) dX11_isAllowed_19 kM_X11_place kL_X11_57 kI_X11_place kS_X11_place rfl (kC_X11.1) smo.c0 rfl rfl (Nat.le_of_ble_eq_true rfl) (by omega) (by decide) (by omega) (by omega) (e_placeP (d := d - 1) smo (al (39 + mn - 1)) (by omega) (by omega)) (q_kR ?_) q_xR
  change q_W _ _ _ _ _ _ _ _ 22 [.ref (215), .int (xid), .int (nI (mn)), q_u, q_u, q_u] [.int (nI (x_pl n al (al (39 + mn - 1)) - 1))] _
  refine q_istore_n dX11_isAllowed_22 (by decide) rfl ?_
  change q_W _ _ _ _ _ _ _ _ _ [.ref (215), .int (xid), .int (nI (mn)), .int (nI (x_pl n al (al (39 + mn - 1)) - 1)), q_u, q_u] [] _
  refine q_aload_n (by first | assumption | omega | decide | (rw [q_R0e]; omega)) dX11_isAllowed_23 rfl ?_
  refine q_iload_n dX11_isAllowed_24 rfl ?_
  refine q_invV (mc' := 0) (ms' := 0) (d' := d - 1) (as := [.int (nI (x_pl n al (al (39 + mn - 1)) - 1))]) dX11_isAllowed_25 kM_X11_attackers kL_X11_80 kI_X11_attackers kS_X11_attackers rfl (kC_X11.1) smo.c0 rfl rfl (Nat.le_of_ble_eq_true rfl) (by omega) (by decide) (by omega) (by omega) (e_mo_attackers (d := d - 1) smo (x_pl n al (al (39 + mn - 1)) - 1) (by omega) (by omega)) (q_kR ?_) q_xR
  change q_W _ _ _ _ _ _ _ _ 28 [.ref (215), .int (xid), .int (nI (mn)), .int (nI (x_pl n al (al (39 + mn - 1)) - 1)), q_u, q_u] [.int (x_mo_attackers al n (x_pl n al (al (39 + mn - 1)) - 1))] _
  refine q_aload_n (by first | assumption | omega | decide | (rw [q_R0e]; omega)) dX11_isAllowed_28 rfl ?_
  refine q_iload_n dX11_isAllowed_29 rfl ?_
  have g2 : x_pl n al xid ≤ n := x_pl_le
  refine q_invV (mc' := 0) (ms' := 0) (d' := d - 1) (as := [.int (xid)]) dX11_isAllowed_30 kM_X11_place kL_X11_57 kI_X11_place kS_X11_place rfl (kC_X11.1) smo.c0 rfl rfl (Nat.le_of_ble_eq_true rfl) (by omega) (by decide) (by omega) (by omega) (e_placeP (d := d - 1) smo xid (by omega) (by omega)) (q_kR ?_) q_xR
  change q_W _ _ _ _ _ _ _ _ 33 [.ref (215), .int (xid), .int (nI (mn)), .int (nI (x_pl n al (al (39 + mn - 1)) - 1)), q_u, q_u] [.int (nI (x_pl n al xid - 1)), .int (x_mo_attackers al n (x_pl n al (al (39 + mn - 1)) - 1))] _
  refine q_ishr dX11_isAllowed_33 ?_
  refine q_iconst (v := 1) dX11_isAllowed_34 rfl ?_
  refine q_iand dX11_isAllowed_35 ?_
  refine q_if_ne 41 dX11_isAllowed_36 (by decide) (fun b36 => ?_) (fun b36 => ?_)
  · refine q_iconst (v := 1) dX11_isAllowed_41 rfl ?_
    refine q_istore dX11_isAllowed_42 (by decide) rfl ?_
    change q_W _ _ _ _ _ _ _ _ _ [.ref (215), .int (xid), .int (nI (mn)), .int (nI (x_pl n al (al (39 + mn - 1)) - 1)), .int (1), q_u] [] _
    refine q_iconst (v := 0) dX11_isAllowed_44 rfl ?_
    refine q_istore dX11_isAllowed_45 (by decide) rfl ?_
    change q_W _ _ _ _ _ _ _ _ _ [.ref (215), .int (xid), .int (nI (mn)), .int (nI (x_pl n al (al (39 + mn - 1)) - 1)), .int (1), .int (0)] [] _
    refine q_forget 3 ?_
    change q_W _ _ _ _ _ _ _ _ _ [.ref (215), .int (xid), .int (nI (mn)), q_u, .int (1), .int (0)] [] _
    refine l_mo_isAllowed_47 smo hm0 hl hid ho_mo_cg ho_mo_lz ho_mo_ty ho_mo_he ho_mo_cn ho_mo_n ho_mo_mn g1 g2 (by omega) (by omega) (by omega) mn 0 true (by omega) (fun a3_0 x3 => ?_)
    change q_W _ _ _ _ _ _ _ _ 89 [q_u, q_u, q_u, q_u, .int (z_b (a3_0)), q_u] [] _
    refine q_iload dX11_isAllowed_89 rfl ?_
    have hE : x_mo_isAllowed al n mn xid = a3_0 := by simp only [x_mo_isAllowed, if_neg b36, x3]
    rw [hE]
    exact q_ireturn dX11_isAllowed_91 rfl (z_b_nar _) (by omega) (by omega) ⟨rfl, rfl⟩
  · refine q_iconst (v := 0) dX11_isAllowed_39 rfl ?_
    have hE : x_mo_isAllowed al n mn xid = false := by simp only [x_mo_isAllowed, if_pos b36]
    rw [hE]
    exact q_ireturn dX11_isAllowed_40 rfl rfl (by omega) (by omega) ⟨rfl, rfl⟩
def x_mo_replies (al : Nat → Int32) (rs : Int32) (n : Nat) (mn : Nat) (xid : Int32) : (Int32) × (Nat → Int32) × (Int32) × (Nat) := (if mn = 0 then (3, al, rs, mn) else (if x_th n al xid then (if x_mo_isAllowed al n mn xid then (if mn = 12 then (2, al, rs, mn) else (0, upd (upd al (39 + mn) (xid)) 3 (nI (mn + 1)), nI (mn + 1), mn + 1)) else (1, al, rs, mn)) else (3, al, rs, mn)))
set_option maxRecDepth 100000 in
set_option maxHeartbeats 8000000 in
theorem e_mo_replies {g : q_G} {h : q_H} {d : Nat} {th : Int32} {al : Nat → Int32} {cg : Nat} {sv : Bool} {rs : Int32} {ac : Int32} {rj : Int32} {ro : Nat → Int32} {ad : Nat → Int32} {bf : Nat → Int32} {ln : Nat → Int32} {lz : Nat} {ip : Nat → Int32} {ty : Nat} {he : Nat} {er : Int32} {ea : Int32} {fa : Int32} {cm : Nat → Int32} {cn : Nat} {n : Nat} {mn : Nat} (smo : z_Mo h 215 th al cg sv rs ac rj ro ad bf ln lz ip ty he er ea fa cm cn n mn)  (xid : Int32) (hlm : mn ≠ 0 → 0 < x_pl n al (al (39 + mn - 1)))  (hd : 5 ≤ d) : q_Spec g mX11_replies d 0 0 [.ref (215), .int (xid)] h (q_chg (.inl (some (.int (x_mo_replies al rs n mn xid).1))) (fun h1 => z_Mo h1 215 th ((x_mo_replies al rs n mn xid).2.1) cg sv ((x_mo_replies al rs n mn xid).2.2.1) ac rj ro ad bf ln lz ip ty he er ea fa cm cn n ((x_mo_replies al rs n mn xid).2.2.2) ∧ q_same h h1 215 8)) := by
  have hb_mo_cg := smo.bcg
  have hb_mo_lz := smo.blz
  have hb_mo_ty := smo.bty
  have hb_mo_he := smo.bhe
  have hb_mo_cn := smo.bcn
  have hb_mo_n := smo.bn
  have hb_mo_mn := smo.bmn
  have ho_mo_cg := smo.bcg
  have ho_mo_lz := smo.blz
  have ho_mo_ty := smo.bty
  have ho_mo_he := smo.bhe
  have ho_mo_cn := smo.bcn
  have ho_mo_n := smo.bn
  have ho_mo_mn := smo.bmn
  have p0 : q_same h h 215 8 := q_same.rfl'
  refine q_enter (by decide +kernel) rfl rfl (Nat.le_of_ble_eq_true rfl) (fun hz => ?_)
  change q_W _ _ _ _ _ _ _ _ _ [.ref (215), .int (xid)] [] _
  refine q_aload_n (by first | assumption | omega | decide | (rw [q_R0e]; omega)) dX11_replies_0 rfl ?_
  refine q_getf (k := 1) (v := .ref (216)) kC_X11 kL_X11_9 rfl (by decide) dX11_replies_1 smo.c0 rfl ?_
  refine q_iconst (v := 3) dX11_replies_4 rfl ?_
  refine q_ialdN (j := 3) (f := al) dX11_replies_5 smo.c1 (by omega) (by decide) ?_
  rw [smo.emn]
  change q_W _ _ _ _ _ _ _ _ _ _ [.int (nI (mn))] _
  refine q_if_eq 17 dX11_replies_6 (by decide) (fun b6 => ?_) (fun b6 => ?_)
  · have b6 := (nI_eq (a := mn) (b := 0) (by omega) (by omega)).mp b6
    refine q_iconst (v := 3) dX11_replies_17 rfl ?_
    have hE : x_mo_replies al rs n mn xid = (3, al, rs, mn) := by simp only [x_mo_replies, if_pos b6]
    rw [hE]
    exact q_ireturn dX11_replies_18 rfl rfl (by omega) (by omega) ⟨rfl, smo, p0⟩
  · have b6 : ¬ (mn = 0) := fun q => b6 ((nI_eq (a := mn) (b := 0) (by omega) (by omega)).mpr q)
    refine q_aload_n (by first | assumption | omega | decide | (rw [q_R0e]; omega)) dX11_replies_9 rfl ?_
    refine q_iload_n dX11_replies_10 rfl ?_
    refine q_invV (mc' := 0) (ms' := 0) (d' := d - 1) (as := [.int (xid)]) dX11_replies_11 kM_X11_isThere kL_X11_141 kI_X11_isThere kS_X11_isThere rfl (kC_X11.1) smo.c0 rfl rfl (Nat.le_of_ble_eq_true rfl) (by omega) (by decide) (by omega) (by omega) (e_isThere (d := d - 1) smo xid (by omega)) (q_kR ?_) q_xR
    change q_W _ _ _ _ _ _ _ _ 14 [.ref (215), .int (xid)] [.int (z_b (x_th n al xid))] _
    refine q_if_ne 19 dX11_replies_14 (by decide) (fun b14 => ?_) (fun b14 => ?_)
    · have b14 := z_b1 b14
      have fb14 : 0 < x_pl n al xid := z_th b14
      refine q_aload_n (by first | assumption | omega | decide | (rw [q_R0e]; omega)) dX11_replies_19 rfl ?_
      refine q_iload_n dX11_replies_20 rfl ?_
      refine q_invV (mc' := 0) (ms' := 0) (d' := d - 1) (as := [.int (xid)]) dX11_replies_21 kM_X11_isAllowed kL_X11_159 kI_X11_isAllowed kS_X11_isAllowed rfl (kC_X11.1) smo.c0 rfl rfl (Nat.le_of_ble_eq_true rfl) (by omega) (by decide) (by omega) (by omega) (e_mo_isAllowed (d := d - 1) smo xid (by omega) (hlm (by omega)) (by omega) (by omega)) (q_kR ?_) q_xR
      change q_W _ _ _ _ _ _ _ _ 24 [.ref (215), .int (xid)] [.int (z_b (x_mo_isAllowed al n mn xid))] _
      refine q_if_ne 29 dX11_replies_24 (by decide) (fun b24 => ?_) (fun b24 => ?_)
      · have b24 := z_b1 b24
        refine q_aload_n (by first | assumption | omega | decide | (rw [q_R0e]; omega)) dX11_replies_29 rfl ?_
        refine q_getf (k := 1) (v := .ref (216)) kC_X11 kL_X11_9 rfl (by decide) dX11_replies_30 smo.c0 rfl ?_
        refine q_iconst (v := 3) dX11_replies_33 rfl ?_
        refine q_ialdN (j := 3) (f := al) dX11_replies_34 smo.c1 (by omega) (by decide) ?_
        rw [smo.emn]
        change q_W _ _ _ _ _ _ _ _ _ _ [.int (nI (mn))] _
        refine q_bipush (v := 12) dX11_replies_35 rfl ?_
        refine q_icmp_ne 42 dX11_replies_37 (by decide) (fun b37 => ?_) (fun b37 => ?_)
        · have b37 : ¬ (mn = 12) := fun q => b37 ((nI_eq (a := mn) (b := 12) (by omega) (by omega)).mpr q)
          refine q_aload_n (by first | assumption | omega | decide | (rw [q_R0e]; omega)) dX11_replies_42 rfl ?_
          refine q_getf (k := 1) (v := .ref (216)) kC_X11 kL_X11_9 rfl (by decide) dX11_replies_43 smo.c0 rfl ?_
          refine q_bipush (v := 39) dX11_replies_46 rfl ?_
          refine q_aload_n (by first | assumption | omega | decide | (rw [q_R0e]; omega)) dX11_replies_48 rfl ?_
          refine q_getf (k := 1) (v := .ref (216)) kC_X11 kL_X11_9 rfl (by decide) dX11_replies_49 smo.c0 rfl ?_
          refine q_iconst (v := 3) dX11_replies_52 rfl ?_
          refine q_ialdN (j := 3) (f := al) dX11_replies_53 smo.c1 (by omega) (by decide) ?_
          rw [smo.emn]
          change q_W _ _ _ _ _ _ _ _ _ _ [.int (nI (mn)), .int (39), .ref (216)] _
          refine q_iaddN (a := 39) (b := mn) dX11_replies_54 ?_
          change q_W _ _ _ _ _ _ _ _ _ _ [.int (nI (39 + mn)), .ref (216)] _
          refine q_iload_n dX11_replies_55 rfl ?_
          refine q_iastN (j := 39 + mn) dX11_replies_56 smo.c1 (by omega) (by decide) ?_
          refine z_genW (B := fun H => z_Mo H 215 th (upd al (39 + mn) (xid)) cg sv rs ac rj ro ad bf ln lz ip ty he er ea fa cm cn n mn ∧ q_same h H 215 8) ⟨z_Mo.put1 smo (n' := n) (mn' := mn) (hbn := by first | omega | (split <;> omega)) (hbmn := by first | omega | (split <;> omega)) (hen := (upd_ne (by omega)).trans smo.en) (hemn := (upd_ne (by omega)).trans smo.emn), p0.trans (q_same.set (by omega) (by omega))⟩ (fun h1 hB => ?_)
          obtain ⟨smo1, p1⟩ := hB
          have hb_mo_cg := smo1.bcg
          have hb_mo_lz := smo1.blz
          have hb_mo_ty := smo1.bty
          have hb_mo_he := smo1.bhe
          have hb_mo_cn := smo1.bcn
          have hb_mo_n := smo1.bn
          have hb_mo_mn := smo1.bmn
          refine q_aload_n (by first | assumption | omega | decide | (rw [q_R0e]; omega)) dX11_replies_57 rfl ?_
          refine q_getf (k := 1) (v := .ref (216)) kC_X11 kL_X11_9 rfl (by decide) dX11_replies_58 smo1.c0 rfl ?_
          refine q_iconst (v := 3) dX11_replies_61 rfl ?_
          refine q_dup2 dX11_replies_62 rfl rfl ?_
          refine q_ialdN (j := 3) (f := upd al (39 + mn) (xid)) dX11_replies_63 smo1.c1 (by omega) (by decide) ?_
          rw [smo1.emn]
          change q_W _ _ _ _ _ _ _ _ _ _ [.int (nI (mn)), .int (3), .ref (216)] _
          refine q_iconst (v := 1) dX11_replies_64 rfl ?_
          refine q_iaddN (a := mn) (b := 1) dX11_replies_65 ?_
          change q_W _ _ _ _ _ _ _ _ _ _ [.int (nI (mn + 1)), .int (3), .ref (216)] _
          refine q_iastN (j := 3) dX11_replies_66 smo1.c1 (by omega) (by decide) ?_
          refine z_genW (B := fun H => z_Mo H 215 th (upd (upd al (39 + mn) (xid)) 3 (nI (mn + 1))) cg sv rs ac rj ro ad bf ln lz ip ty he er ea fa cm cn n (mn + 1) ∧ q_same h H 215 8) ⟨z_Mo.put1 smo1 (n' := n) (mn' := mn + 1) (hbn := by first | omega | (split <;> omega)) (hbmn := by first | omega | (split <;> omega)) (hen := (upd_ne (by omega)).trans smo1.en) (hemn := upd_eq), p1.trans (q_same.set (by omega) (by omega))⟩ (fun h2 hB => ?_)
          obtain ⟨smo2, p2⟩ := hB
          have hb_mo_cg := smo2.bcg
          have hb_mo_lz := smo2.blz
          have hb_mo_ty := smo2.bty
          have hb_mo_he := smo2.bhe
          have hb_mo_cn := smo2.bcn
          have hb_mo_n := smo2.bn
          have hb_mo_mn := smo2.bmn
          refine q_aload_n (by first | assumption | omega | decide | (rw [q_R0e]; omega)) dX11_replies_67 rfl ?_
          refine q_aload_n (by first | assumption | omega | decide | (rw [q_R0e]; omega)) dX11_replies_68 rfl ?_
          refine q_getf (k := 1) (v := .ref (216)) kC_X11 kL_X11_9 rfl (by decide) dX11_replies_69 smo2.c0 rfl ?_
          refine q_iconst (v := 3) dX11_replies_72 rfl ?_
          refine q_ialdN (j := 3) (f := upd (upd al (39 + mn) (xid)) 3 (nI (mn + 1))) dX11_replies_73 smo2.c1 (by omega) (by decide) ?_
          rw [smo2.emn]
          change q_W _ _ _ _ _ _ _ _ _ _ [.int (nI (mn + 1)), .ref (215)] _
          refine q_putf (k := 4) kC_X11 kL_X11_50 rfl (by decide) rfl dX11_replies_74 smo2.c0 (Nat.le_of_ble_eq_true rfl) ⟨rfl, rfl⟩ rfl ?_
          refine z_genW (B := fun H => z_Mo H 215 th (upd (upd al (39 + mn) (xid)) 3 (nI (mn + 1))) cg sv (nI (mn + 1)) ac rj ro ad bf ln lz ip ty he er ea fa cm cn n (mn + 1) ∧ q_same h H 215 8) ⟨z_Mo.put0 smo2 (cg' := cg) (sv' := sv) (lz' := lz) (ty' := ty) (he' := he) (cn' := cn) (hbcg := by first | omega | (split <;> omega)) (hblz := by first | omega | (split <;> omega)) (hbty := by first | omega | (split <;> omega)) (hbhe := by first | omega | (split <;> omega)) (hbcn := by first | omega | (split <;> omega)), p2.trans (q_same.set (by omega) (by omega))⟩ (fun h3 hB => ?_)
          obtain ⟨smo3, p3⟩ := hB
          have hb_mo_cg := smo3.bcg
          have hb_mo_lz := smo3.blz
          have hb_mo_ty := smo3.bty
          have hb_mo_he := smo3.bhe
          have hb_mo_cn := smo3.bcn
          have hb_mo_n := smo3.bn
          have hb_mo_mn := smo3.bmn
          refine q_iconst (v := 0) dX11_replies_77 rfl ?_
          have hE : x_mo_replies al rs n mn xid = (0, upd (upd al (39 + mn) (xid)) 3 (nI (mn + 1)), nI (mn + 1), mn + 1) := by simp only [x_mo_replies, if_neg b6, if_pos b14, if_pos b24, if_neg b37]
          rw [hE]
          exact q_ireturn dX11_replies_78 rfl rfl (by omega) (by omega) ⟨rfl, smo3, p3⟩
        · have b37 := (nI_eq (a := mn) (b := 12) (by omega) (by omega)).mp b37
          refine q_iconst (v := 2) dX11_replies_40 rfl ?_
          have hE : x_mo_replies al rs n mn xid = (2, al, rs, mn) := by simp only [x_mo_replies, if_neg b6, if_pos b14, if_pos b24, if_pos b37]
          rw [hE]
          exact q_ireturn dX11_replies_41 rfl rfl (by omega) (by omega) ⟨rfl, smo, p0⟩
      · have b24 := z_b0n b24
        refine q_iconst (v := 1) dX11_replies_27 rfl ?_
        have hE : x_mo_replies al rs n mn xid = (1, al, rs, mn) := by simp only [x_mo_replies, if_neg b6, if_pos b14, if_neg b24]
        rw [hE]
        exact q_ireturn dX11_replies_28 rfl rfl (by omega) (by omega) ⟨rfl, smo, p0⟩
    · have b14 := z_b0n b14
      have fb14 : x_pl n al xid = 0 := z_nth b14
      refine q_iconst (v := 3) dX11_replies_17 rfl ?_
      have hE : x_mo_replies al rs n mn xid = (3, al, rs, mn) := by simp only [x_mo_replies, if_neg b6, if_neg b14]
      rw [hE]
      exact q_ireturn dX11_replies_18 rfl rfl (by omega) (by omega) ⟨rfl, smo, p0⟩
def x_mo_takes (al : Nat → Int32) (rs : Int32) (mn : Nat) : (Int32) × (Nat → Int32) × (Int32) × (Nat) := (if mn = 0 then (3, al, rs, mn) else (if mn = 1 then (2, al, rs, mn) else (let y2_al := x_mo_clearsMoves (upd al 3 (nI (mn - 1))) (mn - 1); (0, y2_al, nI (mn - 1), mn - 1))))
set_option maxRecDepth 100000 in
set_option maxHeartbeats 8000000 in
theorem e_mo_takes {g : q_G} {h : q_H} {d : Nat} {th : Int32} {al : Nat → Int32} {cg : Nat} {sv : Bool} {rs : Int32} {ac : Int32} {rj : Int32} {ro : Nat → Int32} {ad : Nat → Int32} {bf : Nat → Int32} {ln : Nat → Int32} {lz : Nat} {ip : Nat → Int32} {ty : Nat} {he : Nat} {er : Int32} {ea : Int32} {fa : Int32} {cm : Nat → Int32} {cn : Nat} {n : Nat} {mn : Nat} (smo : z_Mo h 215 th al cg sv rs ac rj ro ad bf ln lz ip ty he er ea fa cm cn n mn)     (hd : 1 ≤ d) : q_Spec g mX11_takes d 0 0 [.ref (215)] h (q_chg (.inl (some (.int (x_mo_takes al rs mn).1))) (fun h1 => z_Mo h1 215 th ((x_mo_takes al rs mn).2.1) cg sv ((x_mo_takes al rs mn).2.2.1) ac rj ro ad bf ln lz ip ty he er ea fa cm cn n ((x_mo_takes al rs mn).2.2.2) ∧ q_same h h1 215 8)) := by
  have hb_mo_cg := smo.bcg
  have hb_mo_lz := smo.blz
  have hb_mo_ty := smo.bty
  have hb_mo_he := smo.bhe
  have hb_mo_cn := smo.bcn
  have hb_mo_n := smo.bn
  have hb_mo_mn := smo.bmn
  have ho_mo_cg := smo.bcg
  have ho_mo_lz := smo.blz
  have ho_mo_ty := smo.bty
  have ho_mo_he := smo.bhe
  have ho_mo_cn := smo.bcn
  have ho_mo_n := smo.bn
  have ho_mo_mn := smo.bmn
  have p0 : q_same h h 215 8 := q_same.rfl'
  refine q_enter (by decide +kernel) rfl rfl (Nat.le_of_ble_eq_true rfl) (fun hz => ?_)
  change q_W _ _ _ _ _ _ _ _ _ [.ref (215)] [] _
  refine q_aload_n (by first | assumption | omega | decide | (rw [q_R0e]; omega)) dX11_takes_0 rfl ?_
  refine q_getf (k := 1) (v := .ref (216)) kC_X11 kL_X11_9 rfl (by decide) dX11_takes_1 smo.c0 rfl ?_
  refine q_iconst (v := 3) dX11_takes_4 rfl ?_
  refine q_ialdN (j := 3) (f := al) dX11_takes_5 smo.c1 (by omega) (by decide) ?_
  rw [smo.emn]
  change q_W _ _ _ _ _ _ _ _ _ _ [.int (nI (mn))] _
  refine q_if_ne 11 dX11_takes_6 (by decide) (fun b6 => ?_) (fun b6 => ?_)
  · have b6 : ¬ (mn = 0) := fun q => b6 ((nI_eq (a := mn) (b := 0) (by omega) (by omega)).mpr q)
    refine q_aload_n (by first | assumption | omega | decide | (rw [q_R0e]; omega)) dX11_takes_11 rfl ?_
    refine q_getf (k := 1) (v := .ref (216)) kC_X11 kL_X11_9 rfl (by decide) dX11_takes_12 smo.c0 rfl ?_
    refine q_iconst (v := 3) dX11_takes_15 rfl ?_
    refine q_ialdN (j := 3) (f := al) dX11_takes_16 smo.c1 (by omega) (by decide) ?_
    rw [smo.emn]
    change q_W _ _ _ _ _ _ _ _ _ _ [.int (nI (mn))] _
    refine q_iconst (v := 1) dX11_takes_17 rfl ?_
    refine q_icmp_ne 23 dX11_takes_18 (by decide) (fun b18 => ?_) (fun b18 => ?_)
    · have b18 : ¬ (mn = 1) := fun q => b18 ((nI_eq (a := mn) (b := 1) (by omega) (by omega)).mpr q)
      refine q_aload_n (by first | assumption | omega | decide | (rw [q_R0e]; omega)) dX11_takes_23 rfl ?_
      refine q_getf (k := 1) (v := .ref (216)) kC_X11 kL_X11_9 rfl (by decide) dX11_takes_24 smo.c0 rfl ?_
      refine q_iconst (v := 3) dX11_takes_27 rfl ?_
      refine q_dup2 dX11_takes_28 rfl rfl ?_
      refine q_ialdN (j := 3) (f := al) dX11_takes_29 smo.c1 (by omega) (by decide) ?_
      rw [smo.emn]
      change q_W _ _ _ _ _ _ _ _ _ _ [.int (nI (mn)), .int (3), .ref (216)] _
      refine q_iconst (v := 1) dX11_takes_30 rfl ?_
      refine q_isubN (a := mn) (b := 1) (by omega) dX11_takes_31 ?_
      refine q_iastN (j := 3) dX11_takes_32 smo.c1 (by omega) (by decide) ?_
      refine z_genW (B := fun H => z_Mo H 215 th (upd al 3 (nI (mn - 1))) cg sv rs ac rj ro ad bf ln lz ip ty he er ea fa cm cn n (mn - 1) ∧ q_same h H 215 8) ⟨z_Mo.put1 smo (n' := n) (mn' := mn - 1) (hbn := by first | omega | (split <;> omega)) (hbmn := by first | omega | (split <;> omega)) (hen := (upd_ne (by omega)).trans smo.en) (hemn := upd_eq), p0.trans (q_same.set (by omega) (by omega))⟩ (fun h1 hB => ?_)
      obtain ⟨smo1, p1⟩ := hB
      have hb_mo_cg := smo1.bcg
      have hb_mo_lz := smo1.blz
      have hb_mo_ty := smo1.bty
      have hb_mo_he := smo1.bhe
      have hb_mo_cn := smo1.bcn
      have hb_mo_n := smo1.bn
      have hb_mo_mn := smo1.bmn
      refine q_aload_n (by first | assumption | omega | decide | (rw [q_R0e]; omega)) dX11_takes_33 rfl ?_
      obtain ⟨y2_al, x2⟩ : ∃ z, x_mo_clearsMoves (upd al 3 (nI (mn - 1))) (mn - 1) = z := ⟨_, rfl⟩
      have e9 := e_mo_clearsMoves (g := g) (h := h1) (d := d - 1) smo1 (by omega)
      rw [x2] at e9
      refine q_invV (mc' := 0) (ms' := 0) (d' := d - 1) (as := []) dX11_takes_34 kM_X11_clearsMoves kL_X11_123 kI_X11_clearsMoves kS_X11_clearsMoves rfl (kC_X11.1) smo1.c0 rfl rfl (Nat.le_of_ble_eq_true rfl) (by omega) (by decide) (by omega) (by omega) (e9) (q_kC (fun h3 hB => ?_)) q_xC
      obtain ⟨t3_0, pp3⟩ := hB
      have smo3 := t3_0
      have p3 := p1.trans (pp3.wide (by omega) (by omega))
      have hb_mo_cg := smo3.bcg
      have hb_mo_lz := smo3.blz
      have hb_mo_ty := smo3.bty
      have hb_mo_he := smo3.bhe
      have hb_mo_cn := smo3.bcn
      have hb_mo_n := smo3.bn
      have hb_mo_mn := smo3.bmn
      change q_W _ _ _ _ _ _ _ _ 37 [.ref (215)] [] _
      refine q_aload_n (by first | assumption | omega | decide | (rw [q_R0e]; omega)) dX11_takes_37 rfl ?_
      refine q_aload_n (by first | assumption | omega | decide | (rw [q_R0e]; omega)) dX11_takes_38 rfl ?_
      refine q_getf (k := 1) (v := .ref (216)) kC_X11 kL_X11_9 rfl (by decide) dX11_takes_39 smo3.c0 rfl ?_
      refine q_iconst (v := 3) dX11_takes_42 rfl ?_
      refine q_ialdN (j := 3) (f := y2_al) dX11_takes_43 smo3.c1 (by omega) (by decide) ?_
      rw [smo3.emn]
      change q_W _ _ _ _ _ _ _ _ _ _ [.int (nI (mn - 1)), .ref (215)] _
      refine q_putf (k := 4) kC_X11 kL_X11_50 rfl (by decide) rfl dX11_takes_44 smo3.c0 (Nat.le_of_ble_eq_true rfl) ⟨rfl, rfl⟩ rfl ?_
      refine z_genW (B := fun H => z_Mo H 215 th y2_al cg sv (nI (mn - 1)) ac rj ro ad bf ln lz ip ty he er ea fa cm cn n (mn - 1) ∧ q_same h H 215 8) ⟨z_Mo.put0 smo3 (cg' := cg) (sv' := sv) (lz' := lz) (ty' := ty) (he' := he) (cn' := cn) (hbcg := by first | omega | (split <;> omega)) (hblz := by first | omega | (split <;> omega)) (hbty := by first | omega | (split <;> omega)) (hbhe := by first | omega | (split <;> omega)) (hbcn := by first | omega | (split <;> omega)), p3.trans (q_same.set (by omega) (by omega))⟩ (fun h4 hB => ?_)
      obtain ⟨smo4, p4⟩ := hB
      have hb_mo_cg := smo4.bcg
      have hb_mo_lz := smo4.blz
      have hb_mo_ty := smo4.bty
      have hb_mo_he := smo4.bhe
      have hb_mo_cn := smo4.bcn
      have hb_mo_n := smo4.bn
      have hb_mo_mn := smo4.bmn
      refine q_iconst (v := 0) dX11_takes_47 rfl ?_
      have hE : x_mo_takes al rs mn = (0, y2_al, nI (mn - 1), mn - 1) := by simp only [x_mo_takes, if_neg b6, if_neg b18, x2]
      rw [hE]
      exact q_ireturn dX11_takes_48 rfl rfl (by omega) (by omega) ⟨rfl, smo4, p4⟩
    · have b18 := (nI_eq (a := mn) (b := 1) (by omega) (by omega)).mp b18
      refine q_iconst (v := 2) dX11_takes_21 rfl ?_
      have hE : x_mo_takes al rs mn = (2, al, rs, mn) := by simp only [x_mo_takes, if_neg b6, if_pos b18]
      rw [hE]
      exact q_ireturn dX11_takes_22 rfl rfl (by omega) (by omega) ⟨rfl, smo, p0⟩
  · have b6 := (nI_eq (a := mn) (b := 0) (by omega) (by omega)).mp b6
    refine q_iconst (v := 3) dX11_takes_9 rfl ?_
    have hE : x_mo_takes al rs mn = (3, al, rs, mn) := by simp only [x_mo_takes, if_pos b6]
    rw [hE]
    exact q_ireturn dX11_takes_10 rfl rfl (by omega) (by omega) ⟨rfl, smo, p0⟩
def x_mo_closes (al : Nat → Int32) (rs : Int32) (mn : Nat) : (Int32) × (Nat → Int32) × (Int32) × (Nat) := (if mn = 0 then (3, al, rs, mn) else (if mn % 2 = 1 then (let y10_al := x_mo_clearsMoves (upd (upd (upd al 4 ((al 4) + (1 : Int32))) 5 (((upd al 4 ((al 4) + (1 : Int32))) 5) + (1 : Int32))) 3 (0)) 0; (0, y10_al, 112, 0)) else (let y4_al := x_mo_clearsMoves (upd (upd (upd al 4 ((al 4) + (1 : Int32))) 5 (((upd al 4 ((al 4) + (1 : Int32))) 5) + (0 : Int32))) 3 (0)) 0; (0, y4_al, 111, 0))))
set_option maxRecDepth 100000 in
set_option maxHeartbeats 8000000 in
theorem e_mo_closes {g : q_G} {h : q_H} {d : Nat} {th : Int32} {al : Nat → Int32} {cg : Nat} {sv : Bool} {rs : Int32} {ac : Int32} {rj : Int32} {ro : Nat → Int32} {ad : Nat → Int32} {bf : Nat → Int32} {ln : Nat → Int32} {lz : Nat} {ip : Nat → Int32} {ty : Nat} {he : Nat} {er : Int32} {ea : Int32} {fa : Int32} {cm : Nat → Int32} {cn : Nat} {n : Nat} {mn : Nat} (smo : z_Mo h 215 th al cg sv rs ac rj ro ad bf ln lz ip ty he er ea fa cm cn n mn)     (hd : 1 ≤ d) : q_Spec g mX11_closes d 0 0 [.ref (215)] h (q_chg (.inl (some (.int (x_mo_closes al rs mn).1))) (fun h1 => z_Mo h1 215 th ((x_mo_closes al rs mn).2.1) cg sv ((x_mo_closes al rs mn).2.2.1) ac rj ro ad bf ln lz ip ty he er ea fa cm cn n ((x_mo_closes al rs mn).2.2.2) ∧ q_same h h1 215 8)) := by
  have hb_mo_cg := smo.bcg
  have hb_mo_lz := smo.blz
  have hb_mo_ty := smo.bty
  have hb_mo_he := smo.bhe
  have hb_mo_cn := smo.bcn
  have hb_mo_n := smo.bn
  have hb_mo_mn := smo.bmn
  have ho_mo_cg := smo.bcg
  have ho_mo_lz := smo.blz
  have ho_mo_ty := smo.bty
  have ho_mo_he := smo.bhe
  have ho_mo_cn := smo.bcn
  have ho_mo_n := smo.bn
  have ho_mo_mn := smo.bmn
  have p0 : q_same h h 215 8 := q_same.rfl'
  refine q_enter (by decide +kernel) rfl rfl (Nat.le_of_ble_eq_true rfl) (fun hz => ?_)
  change q_W _ _ _ _ _ _ _ _ _ [.ref (215), q_u] [] _
  refine q_aload_n (by first | assumption | omega | decide | (rw [q_R0e]; omega)) dX11_closes_0 rfl ?_
  refine q_getf (k := 1) (v := .ref (216)) kC_X11 kL_X11_9 rfl (by decide) dX11_closes_1 smo.c0 rfl ?_
  refine q_iconst (v := 3) dX11_closes_4 rfl ?_
  refine q_ialdN (j := 3) (f := al) dX11_closes_5 smo.c1 (by omega) (by decide) ?_
  rw [smo.emn]
  change q_W _ _ _ _ _ _ _ _ _ _ [.int (nI (mn))] _
  refine q_if_ne 11 dX11_closes_6 (by decide) (fun b6 => ?_) (fun b6 => ?_)
  · have b6 : ¬ (mn = 0) := fun q => b6 ((nI_eq (a := mn) (b := 0) (by omega) (by omega)).mpr q)
    refine q_aload_n (by first | assumption | omega | decide | (rw [q_R0e]; omega)) dX11_closes_11 rfl ?_
    refine q_getf (k := 1) (v := .ref (216)) kC_X11 kL_X11_9 rfl (by decide) dX11_closes_12 smo.c0 rfl ?_
    refine q_iconst (v := 3) dX11_closes_15 rfl ?_
    refine q_ialdN (j := 3) (f := al) dX11_closes_16 smo.c1 (by omega) (by decide) ?_
    rw [smo.emn]
    change q_W _ _ _ _ _ _ _ _ _ _ [.int (nI (mn))] _
    refine q_iconst (v := 2) dX11_closes_17 rfl ?_
    refine q_iremN (a := mn) (b := 2) (by omega) (by decide) (by decide) dX11_closes_18 ?_
    refine q_iconst (v := 1) dX11_closes_19 rfl ?_
    refine q_icmp_ne 27 dX11_closes_20 (by decide) (fun b20 => ?_) (fun b20 => ?_)
    · have b20 : ¬ (mn % 2 = 1) := fun q => b20 ((nI_eq (a := mn % 2) (b := 1) (by omega) (by omega)).mpr q)
      refine q_iconst (v := 0) dX11_closes_27 rfl ?_
      refine q_istore_n dX11_closes_28 (by decide) rfl ?_
      change q_W _ _ _ _ _ _ _ _ _ [.ref (215), .int (0)] [] _
      refine q_aload_n (by first | assumption | omega | decide | (rw [q_R0e]; omega)) dX11_closes_29 rfl ?_
      refine q_getf (k := 1) (v := .ref (216)) kC_X11 kL_X11_9 rfl (by decide) dX11_closes_30 smo.c0 rfl ?_
      refine q_iconst (v := 4) dX11_closes_33 rfl ?_
      refine q_dup2 dX11_closes_34 rfl rfl ?_
      refine q_ialdN (j := 4) (f := al) dX11_closes_35 smo.c1 (by omega) (by decide) ?_
      change q_W _ _ _ _ _ _ _ _ _ _ [.int (al 4), .int (4), .ref (216)] _
      refine q_iconst (v := 1) dX11_closes_36 rfl ?_
      refine q_iadd dX11_closes_37 ?_
      refine q_iastN (j := 4) dX11_closes_38 smo.c1 (by omega) (by decide) ?_
      refine z_genW (B := fun H => z_Mo H 215 th (upd al 4 ((al 4) + (1 : Int32))) cg sv rs ac rj ro ad bf ln lz ip ty he er ea fa cm cn n mn ∧ q_same h H 215 8) ⟨z_Mo.put1 smo (n' := n) (mn' := mn) (hbn := by first | omega | (split <;> omega)) (hbmn := by first | omega | (split <;> omega)) (hen := (upd_ne (by omega)).trans smo.en) (hemn := (upd_ne (by omega)).trans smo.emn), p0.trans (q_same.set (by omega) (by omega))⟩ (fun h1 hB => ?_)
      obtain ⟨smo1, p1⟩ := hB
      have hb_mo_cg := smo1.bcg
      have hb_mo_lz := smo1.blz
      have hb_mo_ty := smo1.bty
      have hb_mo_he := smo1.bhe
      have hb_mo_cn := smo1.bcn
      have hb_mo_n := smo1.bn
      have hb_mo_mn := smo1.bmn
      refine q_aload_n (by first | assumption | omega | decide | (rw [q_R0e]; omega)) dX11_closes_39 rfl ?_
      refine q_getf (k := 1) (v := .ref (216)) kC_X11 kL_X11_9 rfl (by decide) dX11_closes_40 smo1.c0 rfl ?_
      refine q_iconst (v := 5) dX11_closes_43 rfl ?_
      refine q_dup2 dX11_closes_44 rfl rfl ?_
      refine q_ialdN (j := 5) (f := upd al 4 ((al 4) + (1 : Int32))) dX11_closes_45 smo1.c1 (by omega) (by decide) ?_
      change q_W _ _ _ _ _ _ _ _ _ _ [.int ((upd al 4 ((al 4) + (1 : Int32))) 5), .int (5), .ref (216)] _
      refine q_iload_n dX11_closes_46 rfl ?_
      refine q_if_eq 54 dX11_closes_47 (by decide) (fun b47 => ?_) (fun b47 => ?_)
      · refine q_iconst (v := 0) dX11_closes_54 rfl ?_
        refine q_iadd dX11_closes_55 ?_
        refine q_iastN (j := 5) dX11_closes_56 smo1.c1 (by omega) (by decide) ?_
        refine z_genW (B := fun H => z_Mo H 215 th (upd (upd al 4 ((al 4) + (1 : Int32))) 5 (((upd al 4 ((al 4) + (1 : Int32))) 5) + (0 : Int32))) cg sv rs ac rj ro ad bf ln lz ip ty he er ea fa cm cn n mn ∧ q_same h H 215 8) ⟨z_Mo.put1 smo1 (n' := n) (mn' := mn) (hbn := by first | omega | (split <;> omega)) (hbmn := by first | omega | (split <;> omega)) (hen := (upd_ne (by omega)).trans smo1.en) (hemn := (upd_ne (by omega)).trans smo1.emn), p1.trans (q_same.set (by omega) (by omega))⟩ (fun h2 hB => ?_)
        obtain ⟨smo2, p2⟩ := hB
        have hb_mo_cg := smo2.bcg
        have hb_mo_lz := smo2.blz
        have hb_mo_ty := smo2.bty
        have hb_mo_he := smo2.bhe
        have hb_mo_cn := smo2.bcn
        have hb_mo_n := smo2.bn
        have hb_mo_mn := smo2.bmn
        refine q_aload_n (by first | assumption | omega | decide | (rw [q_R0e]; omega)) dX11_closes_57 rfl ?_
        refine q_getf (k := 1) (v := .ref (216)) kC_X11 kL_X11_9 rfl (by decide) dX11_closes_58 smo2.c0 rfl ?_
        refine q_iconst (v := 3) dX11_closes_61 rfl ?_
        refine q_iconst (v := 0) dX11_closes_62 rfl ?_
        refine q_iastN (j := 3) dX11_closes_63 smo2.c1 (by omega) (by decide) ?_
        refine z_genW (B := fun H => z_Mo H 215 th (upd (upd (upd al 4 ((al 4) + (1 : Int32))) 5 (((upd al 4 ((al 4) + (1 : Int32))) 5) + (0 : Int32))) 3 (0)) cg sv rs ac rj ro ad bf ln lz ip ty he er ea fa cm cn n 0 ∧ q_same h H 215 8) ⟨z_Mo.put1 smo2 (n' := n) (mn' := 0) (hbn := by first | omega | (split <;> omega)) (hbmn := by first | omega | (split <;> omega)) (hen := (upd_ne (by omega)).trans smo2.en) (hemn := upd_eq), p2.trans (q_same.set (by omega) (by omega))⟩ (fun h3 hB => ?_)
        obtain ⟨smo3, p3⟩ := hB
        have hb_mo_cg := smo3.bcg
        have hb_mo_lz := smo3.blz
        have hb_mo_ty := smo3.bty
        have hb_mo_he := smo3.bhe
        have hb_mo_cn := smo3.bcn
        have hb_mo_n := smo3.bn
        refine q_aload_n (by first | assumption | omega | decide | (rw [q_R0e]; omega)) dX11_closes_64 rfl ?_
        obtain ⟨y4_al, x4⟩ : ∃ z, x_mo_clearsMoves (upd (upd (upd al 4 ((al 4) + (1 : Int32))) 5 (((upd al 4 ((al 4) + (1 : Int32))) 5) + (0 : Int32))) 3 (0)) 0 = z := ⟨_, rfl⟩
        have e9 := e_mo_clearsMoves (g := g) (h := h3) (d := d - 1) smo3 (by omega)
        rw [x4] at e9
        refine q_invV (mc' := 0) (ms' := 0) (d' := d - 1) (as := []) dX11_closes_65 kM_X11_clearsMoves kL_X11_123 kI_X11_clearsMoves kS_X11_clearsMoves rfl (kC_X11.1) smo3.c0 rfl rfl (Nat.le_of_ble_eq_true rfl) (by omega) (by decide) (by omega) (by omega) (e9) (q_kC (fun h5 hB => ?_)) q_xC
        obtain ⟨t5_0, pp5⟩ := hB
        have smo5 := t5_0
        have p5 := p3.trans (pp5.wide (by omega) (by omega))
        have hb_mo_cg := smo5.bcg
        have hb_mo_lz := smo5.blz
        have hb_mo_ty := smo5.bty
        have hb_mo_he := smo5.bhe
        have hb_mo_cn := smo5.bcn
        have hb_mo_n := smo5.bn
        change q_W _ _ _ _ _ _ _ _ 68 [.ref (215), .int (0)] [] _
        refine q_aload_n (by first | assumption | omega | decide | (rw [q_R0e]; omega)) dX11_closes_68 rfl ?_
        refine q_iload_n dX11_closes_69 rfl ?_
        refine q_if_eq 78 dX11_closes_70 (by decide) (fun b70 => ?_) (fun b70 => ?_)
        · refine q_bipush (v := 111) dX11_closes_78 rfl ?_
          refine q_putf (k := 4) kC_X11 kL_X11_50 rfl (by decide) rfl dX11_closes_80 smo5.c0 (Nat.le_of_ble_eq_true rfl) ⟨rfl, rfl⟩ rfl ?_
          refine z_genW (B := fun H => z_Mo H 215 th y4_al cg sv 111 ac rj ro ad bf ln lz ip ty he er ea fa cm cn n 0 ∧ q_same h H 215 8) ⟨z_Mo.put0 smo5 (cg' := cg) (sv' := sv) (lz' := lz) (ty' := ty) (he' := he) (cn' := cn) (hbcg := by first | omega | (split <;> omega)) (hblz := by first | omega | (split <;> omega)) (hbty := by first | omega | (split <;> omega)) (hbhe := by first | omega | (split <;> omega)) (hbcn := by first | omega | (split <;> omega)), p5.trans (q_same.set (by omega) (by omega))⟩ (fun h6 hB => ?_)
          obtain ⟨smo6, p6⟩ := hB
          have hb_mo_cg := smo6.bcg
          have hb_mo_lz := smo6.blz
          have hb_mo_ty := smo6.bty
          have hb_mo_he := smo6.bhe
          have hb_mo_cn := smo6.bcn
          have hb_mo_n := smo6.bn
          refine q_iconst (v := 0) dX11_closes_83 rfl ?_
          have hE : x_mo_closes al rs mn = (0, y4_al, 111, 0) := by simp only [x_mo_closes, if_neg b6, if_neg b20, x4]
          rw [hE]
          exact q_ireturn dX11_closes_84 rfl rfl (by omega) (by omega) ⟨rfl, smo6, p6⟩
        · exact absurd (by decide) b70
      · exact absurd (by decide) b47
    · have b20 := (nI_eq (a := mn % 2) (b := 1) (by omega) (by omega)).mp b20
      refine q_iconst (v := 1) dX11_closes_23 rfl ?_
      refine q_goto 28 dX11_closes_24 (by decide) ?_
      refine q_istore_n dX11_closes_28 (by decide) rfl ?_
      change q_W _ _ _ _ _ _ _ _ _ [.ref (215), .int (1)] [] _
      refine q_aload_n (by first | assumption | omega | decide | (rw [q_R0e]; omega)) dX11_closes_29 rfl ?_
      refine q_getf (k := 1) (v := .ref (216)) kC_X11 kL_X11_9 rfl (by decide) dX11_closes_30 smo.c0 rfl ?_
      refine q_iconst (v := 4) dX11_closes_33 rfl ?_
      refine q_dup2 dX11_closes_34 rfl rfl ?_
      refine q_ialdN (j := 4) (f := al) dX11_closes_35 smo.c1 (by omega) (by decide) ?_
      change q_W _ _ _ _ _ _ _ _ _ _ [.int (al 4), .int (4), .ref (216)] _
      refine q_iconst (v := 1) dX11_closes_36 rfl ?_
      refine q_iadd dX11_closes_37 ?_
      refine q_iastN (j := 4) dX11_closes_38 smo.c1 (by omega) (by decide) ?_
      refine z_genW (B := fun H => z_Mo H 215 th (upd al 4 ((al 4) + (1 : Int32))) cg sv rs ac rj ro ad bf ln lz ip ty he er ea fa cm cn n mn ∧ q_same h H 215 8) ⟨z_Mo.put1 smo (n' := n) (mn' := mn) (hbn := by first | omega | (split <;> omega)) (hbmn := by first | omega | (split <;> omega)) (hen := (upd_ne (by omega)).trans smo.en) (hemn := (upd_ne (by omega)).trans smo.emn), p0.trans (q_same.set (by omega) (by omega))⟩ (fun h7 hB => ?_)
      obtain ⟨smo7, p7⟩ := hB
      have hb_mo_cg := smo7.bcg
      have hb_mo_lz := smo7.blz
      have hb_mo_ty := smo7.bty
      have hb_mo_he := smo7.bhe
      have hb_mo_cn := smo7.bcn
      have hb_mo_n := smo7.bn
      have hb_mo_mn := smo7.bmn
      refine q_aload_n (by first | assumption | omega | decide | (rw [q_R0e]; omega)) dX11_closes_39 rfl ?_
      refine q_getf (k := 1) (v := .ref (216)) kC_X11 kL_X11_9 rfl (by decide) dX11_closes_40 smo7.c0 rfl ?_
      refine q_iconst (v := 5) dX11_closes_43 rfl ?_
      refine q_dup2 dX11_closes_44 rfl rfl ?_
      refine q_ialdN (j := 5) (f := upd al 4 ((al 4) + (1 : Int32))) dX11_closes_45 smo7.c1 (by omega) (by decide) ?_
      change q_W _ _ _ _ _ _ _ _ _ _ [.int ((upd al 4 ((al 4) + (1 : Int32))) 5), .int (5), .ref (216)] _
      refine q_iload_n dX11_closes_46 rfl ?_
      refine q_if_eq 54 dX11_closes_47 (by decide) (fun b47 => ?_) (fun b47 => ?_)
      · exact absurd b47 (by decide)
      · refine q_iconst (v := 1) dX11_closes_50 rfl ?_
        refine q_goto 55 dX11_closes_51 (by decide) ?_
        refine q_iadd dX11_closes_55 ?_
        refine q_iastN (j := 5) dX11_closes_56 smo7.c1 (by omega) (by decide) ?_
        refine z_genW (B := fun H => z_Mo H 215 th (upd (upd al 4 ((al 4) + (1 : Int32))) 5 (((upd al 4 ((al 4) + (1 : Int32))) 5) + (1 : Int32))) cg sv rs ac rj ro ad bf ln lz ip ty he er ea fa cm cn n mn ∧ q_same h H 215 8) ⟨z_Mo.put1 smo7 (n' := n) (mn' := mn) (hbn := by first | omega | (split <;> omega)) (hbmn := by first | omega | (split <;> omega)) (hen := (upd_ne (by omega)).trans smo7.en) (hemn := (upd_ne (by omega)).trans smo7.emn), p7.trans (q_same.set (by omega) (by omega))⟩ (fun h8 hB => ?_)
        obtain ⟨smo8, p8⟩ := hB
        have hb_mo_cg := smo8.bcg
        have hb_mo_lz := smo8.blz
        have hb_mo_ty := smo8.bty
        have hb_mo_he := smo8.bhe
        have hb_mo_cn := smo8.bcn
        have hb_mo_n := smo8.bn
        have hb_mo_mn := smo8.bmn
        refine q_aload_n (by first | assumption | omega | decide | (rw [q_R0e]; omega)) dX11_closes_57 rfl ?_
        refine q_getf (k := 1) (v := .ref (216)) kC_X11 kL_X11_9 rfl (by decide) dX11_closes_58 smo8.c0 rfl ?_
        refine q_iconst (v := 3) dX11_closes_61 rfl ?_
        refine q_iconst (v := 0) dX11_closes_62 rfl ?_
        refine q_iastN (j := 3) dX11_closes_63 smo8.c1 (by omega) (by decide) ?_
        refine z_genW (B := fun H => z_Mo H 215 th (upd (upd (upd al 4 ((al 4) + (1 : Int32))) 5 (((upd al 4 ((al 4) + (1 : Int32))) 5) + (1 : Int32))) 3 (0)) cg sv rs ac rj ro ad bf ln lz ip ty he er ea fa cm cn n 0 ∧ q_same h H 215 8) ⟨z_Mo.put1 smo8 (n' := n) (mn' := 0) (hbn := by first | omega | (split <;> omega)) (hbmn := by first | omega | (split <;> omega)) (hen := (upd_ne (by omega)).trans smo8.en) (hemn := upd_eq), p8.trans (q_same.set (by omega) (by omega))⟩ (fun h9 hB => ?_)
        obtain ⟨smo9, p9⟩ := hB
        have hb_mo_cg := smo9.bcg
        have hb_mo_lz := smo9.blz
        have hb_mo_ty := smo9.bty
        have hb_mo_he := smo9.bhe
        have hb_mo_cn := smo9.bcn
        have hb_mo_n := smo9.bn
        refine q_aload_n (by first | assumption | omega | decide | (rw [q_R0e]; omega)) dX11_closes_64 rfl ?_
        obtain ⟨y10_al, x10⟩ : ∃ z, x_mo_clearsMoves (upd (upd (upd al 4 ((al 4) + (1 : Int32))) 5 (((upd al 4 ((al 4) + (1 : Int32))) 5) + (1 : Int32))) 3 (0)) 0 = z := ⟨_, rfl⟩
        have e9 := e_mo_clearsMoves (g := g) (h := h9) (d := d - 1) smo9 (by omega)
        rw [x10] at e9
        refine q_invV (mc' := 0) (ms' := 0) (d' := d - 1) (as := []) dX11_closes_65 kM_X11_clearsMoves kL_X11_123 kI_X11_clearsMoves kS_X11_clearsMoves rfl (kC_X11.1) smo9.c0 rfl rfl (Nat.le_of_ble_eq_true rfl) (by omega) (by decide) (by omega) (by omega) (e9) (q_kC (fun h11 hB => ?_)) q_xC
        obtain ⟨t11_0, pp11⟩ := hB
        have smo11 := t11_0
        have p11 := p9.trans (pp11.wide (by omega) (by omega))
        have hb_mo_cg := smo11.bcg
        have hb_mo_lz := smo11.blz
        have hb_mo_ty := smo11.bty
        have hb_mo_he := smo11.bhe
        have hb_mo_cn := smo11.bcn
        have hb_mo_n := smo11.bn
        change q_W _ _ _ _ _ _ _ _ 68 [.ref (215), .int (1)] [] _
        refine q_aload_n (by first | assumption | omega | decide | (rw [q_R0e]; omega)) dX11_closes_68 rfl ?_
        refine q_iload_n dX11_closes_69 rfl ?_
        refine q_if_eq 78 dX11_closes_70 (by decide) (fun b70 => ?_) (fun b70 => ?_)
        · exact absurd b70 (by decide)
        · refine q_bipush (v := 112) dX11_closes_73 rfl ?_
          refine q_goto 80 dX11_closes_75 (by decide) ?_
          refine q_putf (k := 4) kC_X11 kL_X11_50 rfl (by decide) rfl dX11_closes_80 smo11.c0 (Nat.le_of_ble_eq_true rfl) ⟨rfl, rfl⟩ rfl ?_
          refine z_genW (B := fun H => z_Mo H 215 th y10_al cg sv 112 ac rj ro ad bf ln lz ip ty he er ea fa cm cn n 0 ∧ q_same h H 215 8) ⟨z_Mo.put0 smo11 (cg' := cg) (sv' := sv) (lz' := lz) (ty' := ty) (he' := he) (cn' := cn) (hbcg := by first | omega | (split <;> omega)) (hblz := by first | omega | (split <;> omega)) (hbty := by first | omega | (split <;> omega)) (hbhe := by first | omega | (split <;> omega)) (hbcn := by first | omega | (split <;> omega)), p11.trans (q_same.set (by omega) (by omega))⟩ (fun h12 hB => ?_)
          obtain ⟨smo12, p12⟩ := hB
          have hb_mo_cg := smo12.bcg
          have hb_mo_lz := smo12.blz
          have hb_mo_ty := smo12.bty
          have hb_mo_he := smo12.bhe
          have hb_mo_cn := smo12.bcn
          have hb_mo_n := smo12.bn
          refine q_iconst (v := 0) dX11_closes_83 rfl ?_
          have hE : x_mo_closes al rs mn = (0, y10_al, 112, 0) := by simp only [x_mo_closes, if_neg b6, if_pos b20, x10]
          rw [hE]
          exact q_ireturn dX11_closes_84 rfl rfl (by omega) (by omega) ⟨rfl, smo12, p12⟩
  · have b6 := (nI_eq (a := mn) (b := 0) (by omega) (by omega)).mp b6
    refine q_iconst (v := 3) dX11_closes_9 rfl ?_
    have hE : x_mo_closes al rs mn = (3, al, rs, mn) := by simp only [x_mo_closes, if_pos b6]
    rw [hE]
    exact q_ireturn dX11_closes_10 rfl rfl (by omega) (by omega) ⟨rfl, smo, p0⟩
def x_mo_ages_2 (xd : Int32) : Nat → Nat → (Nat → Int32) → (Nat → Int32)
  | 0, _, al_2 => al_2
  | r + 1, k, al_2 => (if ((al_2 (7 + 3 * k + 2)) + xd) ≤ (90) then x_mo_ages_2 xd r (k + 1) (upd al_2 (7 + (3 * k) + 2) ((al_2 (7 + 3 * k + 2)) + xd)) else x_mo_ages_2 xd r (k + 1) (upd al_2 (7 + (3 * k) + 2) (90)))
set_option maxRecDepth 100000 in
set_option maxHeartbeats 8000000 in
theorem l_mo_ages_2 {g : q_G} {h : q_H} {d mc ms kc ks : Nat} {Q : q_O → q_H → Prop} {th : Int32} {cg : Nat} {sv : Bool} {rs : Int32} {ac : Int32} {rj : Int32} {ro : Nat → Int32} {ad : Nat → Int32} {bf : Nat → Int32} {ln : Nat → Int32} {lz : Nat} {ip : Nat → Int32} {ty : Nat} {he : Nat} {er : Int32} {ea : Int32} {fa : Int32} {cm : Nat → Int32} {cn : Nat} {n : Nat} {mn : Nat} {xd : Int32}   (ho_mo_cg : cg ≤ 8) (ho_mo_lz : lz ≤ 160) (ho_mo_ty : ty ≤ 60) (ho_mo_he : he ≤ 60) (ho_mo_cn : cn ≤ 61) (ho_mo_n : n ≤ 8) (ho_mo_mn : mn ≤ 12)  (hd : 1 ≤ d) (hkc : kc + 0 ≤ mc) (hks : ks + 0 ≤ ms) : ∀ (r k : Nat) (al_2 : Nat → Int32) (hh : q_H) (smo_2 : z_Mo hh 215 th al_2 cg sv rs ac rj ro ad bf ln lz ip ty he er ea fa cm cn n mn) (pH : q_same h hh 215 8) (hk_2 : k + r = n) (K : ∀ (r2_0 : Nat → Int32), x_mo_ages_2 xd r k al_2 = r2_0 → ∀ h2, z_Mo h2 215 th r2_0 cg sv rs ac rj ro ad bf ln lz ip ty he er ea fa cm cn n mn → q_same h h2 215 8 → q_W g mX11_ages d mc ms Q kc ks 52 [.ref (215), .int (xd), q_u, q_u] [] h2), q_W g mX11_ages d mc ms Q kc ks 2 [.ref (215), .int (xd), .int (nI (k)), q_u] [] hh := by
  intro r
  induction r with
  | zero =>
    intro k al_2 hh smo_2 pH hk_2 K
    have hb_mo_cg := smo_2.bcg
    have hb_mo_lz := smo_2.blz
    have hb_mo_ty := smo_2.bty
    have hb_mo_he := smo_2.bhe
    have hb_mo_cn := smo_2.bcn
    have hb_mo_n := smo_2.bn
    have hb_mo_mn := smo_2.bmn
    refine q_iload_n dX11_ages_2 rfl ?_
    refine q_aload_n (by first | assumption | omega | decide | (rw [q_R0e]; omega)) dX11_ages_3 rfl ?_
    refine q_getf (k := 1) (v := .ref (216)) kC_X11 kL_X11_9 rfl (by decide) dX11_ages_4 smo_2.c0 rfl ?_
    refine q_iconst (v := 0) dX11_ages_7 rfl ?_
    refine q_ialdN (j := 0) (f := al_2) dX11_ages_8 smo_2.c1 (by omega) (by decide) ?_
    rw [smo_2.en]
    change q_W _ _ _ _ _ _ _ _ _ _ [.int (nI (n)), .int (nI (k))] _
    refine q_icmp_ge 52 dX11_ages_9 (by decide) (fun b9 => ?_) (fun b9 => ?_)
    · have b9 := (nI_leI (a := n) (b := k) (by omega) (by omega)).mp b9
      refine q_forget 2 ?_
      change q_W _ _ _ _ _ _ _ _ _ [.ref (215), .int (xd), q_u, q_u] [] _
      exact K al_2 (by simp only [x_mo_ages_2]) hh smo_2 pH
    · have b9 : ¬ (n ≤ k) := fun q => b9 ((nI_leI (a := n) (b := k) (by omega) (by omega)).mpr q)
      exact absurd b9 (by omega)
  | succ r ih =>
    intro k al_2 hh smo_2 pH hk_2 K
    have hb_mo_cg := smo_2.bcg
    have hb_mo_lz := smo_2.blz
    have hb_mo_ty := smo_2.bty
    have hb_mo_he := smo_2.bhe
    have hb_mo_cn := smo_2.bcn
    have hb_mo_n := smo_2.bn
    have hb_mo_mn := smo_2.bmn
    refine q_iload_n dX11_ages_2 rfl ?_
    refine q_aload_n (by first | assumption | omega | decide | (rw [q_R0e]; omega)) dX11_ages_3 rfl ?_
    refine q_getf (k := 1) (v := .ref (216)) kC_X11 kL_X11_9 rfl (by decide) dX11_ages_4 smo_2.c0 rfl ?_
    refine q_iconst (v := 0) dX11_ages_7 rfl ?_
    refine q_ialdN (j := 0) (f := al_2) dX11_ages_8 smo_2.c1 (by omega) (by decide) ?_
    rw [smo_2.en]
    change q_W _ _ _ _ _ _ _ _ _ _ [.int (nI (n)), .int (nI (k))] _
    refine q_icmp_ge 52 dX11_ages_9 (by decide) (fun b9 => ?_) (fun b9 => ?_)
    · have b9 := (nI_leI (a := n) (b := k) (by omega) (by omega)).mp b9
      exact absurd b9 (by omega)
    · have b9 : ¬ (n ≤ k) := fun q => b9 ((nI_leI (a := n) (b := k) (by omega) (by omega)).mpr q)
      refine q_aload_n (by first | assumption | omega | decide | (rw [q_R0e]; omega)) dX11_ages_12 rfl ?_
      refine q_iload_n dX11_ages_13 rfl ?_
      refine q_iconst (v := 2) dX11_ages_14 rfl ?_
      refine q_invV (mc' := 0) (ms' := 0) (d' := d - 1) (as := [.int (nI (k)), .int (2)]) dX11_ages_15 kM_X11_a kL_X11_53 kI_X11_a kS_X11_a rfl (kC_X11.1) smo_2.c0 rfl rfl (Nat.le_of_ble_eq_true rfl) (by omega) (by decide) (by omega) (by omega) (e_mo_a (d := d - 1) smo_2 k 2 (by omega) (by omega) (by omega)) (q_kR ?_) q_xR
      change q_W _ _ _ _ _ _ _ _ 18 [.ref (215), .int (xd), .int (nI (k)), q_u] [.int (al_2 (7 + 3 * k + 2))] _
      refine q_iload_n dX11_ages_18 rfl ?_
      refine q_iadd dX11_ages_19 ?_
      refine q_istore_n dX11_ages_20 (by decide) rfl ?_
      change q_W _ _ _ _ _ _ _ _ _ [.ref (215), .int (xd), .int (nI (k)), .int ((al_2 (7 + 3 * k + 2)) + xd)] [] _
      refine q_aload_n (by first | assumption | omega | decide | (rw [q_R0e]; omega)) dX11_ages_21 rfl ?_
      refine q_getf (k := 1) (v := .ref (216)) kC_X11 kL_X11_9 rfl (by decide) dX11_ages_22 smo_2.c0 rfl ?_
      refine q_bipush (v := 7) dX11_ages_25 rfl ?_
      refine q_iconst (v := 3) dX11_ages_27 rfl ?_
      refine q_iload_n dX11_ages_28 rfl ?_
      refine q_imulN (a := 3) (b := k) dX11_ages_29 ?_
      change q_W _ _ _ _ _ _ _ _ _ _ [.int (nI (3 * k)), .int (7), .ref (216)] _
      refine q_iaddN (a := 7) (b := 3 * k) dX11_ages_30 ?_
      change q_W _ _ _ _ _ _ _ _ _ _ [.int (nI (7 + (3 * k))), .ref (216)] _
      refine q_iconst (v := 2) dX11_ages_31 rfl ?_
      refine q_iaddN (a := 7 + (3 * k)) (b := 2) dX11_ages_32 ?_
      change q_W _ _ _ _ _ _ _ _ _ _ [.int (nI (7 + (3 * k) + 2)), .ref (216)] _
      refine q_iload_n dX11_ages_33 rfl ?_
      refine q_bipush (v := 90) dX11_ages_34 rfl ?_
      refine q_icmp_le 44 dX11_ages_36 (by decide) (fun b36 => ?_) (fun b36 => ?_)
      · refine q_iload_n dX11_ages_44 rfl ?_
        refine q_iastN (j := 7 + (3 * k) + 2) dX11_ages_45 smo_2.c1 (by omega) (by decide) ?_
        refine z_genW (B := fun H => z_Mo H 215 th (upd al_2 (7 + (3 * k) + 2) ((al_2 (7 + 3 * k + 2)) + xd)) cg sv rs ac rj ro ad bf ln lz ip ty he er ea fa cm cn n mn ∧ q_same h H 215 8) ⟨z_Mo.put1 smo_2 (n' := n) (mn' := mn) (hbn := by first | omega | (split <;> omega)) (hbmn := by first | omega | (split <;> omega)) (hen := (upd_ne (by omega)).trans smo_2.en) (hemn := (upd_ne (by omega)).trans smo_2.emn), pH.trans (q_same.set (by omega) (by omega))⟩ (fun h1 hB => ?_)
        obtain ⟨smo1, p1⟩ := hB
        have hb_mo_cg := smo1.bcg
        have hb_mo_lz := smo1.blz
        have hb_mo_ty := smo1.bty
        have hb_mo_he := smo1.bhe
        have hb_mo_cn := smo1.bcn
        have hb_mo_n := smo1.bn
        have hb_mo_mn := smo1.bmn
        refine q_iinc (x := nI (k)) (v := nI (k + 1)) dX11_ages_46 rfl (nI_add _ 1) rfl ?_
        change q_W _ _ _ _ _ _ _ _ _ [.ref (215), .int (xd), .int (nI (k + 1)), .int ((al_2 (7 + 3 * k + 2)) + xd)] [] _
        refine q_goto 2 dX11_ages_49 (by decide) ?_
        refine q_forget 3 ?_
        change q_W _ _ _ _ _ _ _ _ _ [.ref (215), .int (xd), .int (nI (k + 1)), q_u] [] _
        exact ih (k + 1) (upd al_2 (7 + (3 * k) + 2) ((al_2 (7 + 3 * k + 2)) + xd)) h1 smo1 p1 (by omega) (fun r2_0 e9 => K r2_0 (by simp only [x_mo_ages_2, if_pos b36]; exact e9))
      · refine q_bipush (v := 90) dX11_ages_39 rfl ?_
        refine q_goto 45 dX11_ages_41 (by decide) ?_
        refine q_iastN (j := 7 + (3 * k) + 2) dX11_ages_45 smo_2.c1 (by omega) (by decide) ?_
        refine z_genW (B := fun H => z_Mo H 215 th (upd al_2 (7 + (3 * k) + 2) (90)) cg sv rs ac rj ro ad bf ln lz ip ty he er ea fa cm cn n mn ∧ q_same h H 215 8) ⟨z_Mo.put1 smo_2 (n' := n) (mn' := mn) (hbn := by first | omega | (split <;> omega)) (hbmn := by first | omega | (split <;> omega)) (hen := (upd_ne (by omega)).trans smo_2.en) (hemn := (upd_ne (by omega)).trans smo_2.emn), pH.trans (q_same.set (by omega) (by omega))⟩ (fun h2 hB => ?_)
        obtain ⟨smo2, p2⟩ := hB
        have hb_mo_cg := smo2.bcg
        have hb_mo_lz := smo2.blz
        have hb_mo_ty := smo2.bty
        have hb_mo_he := smo2.bhe
        have hb_mo_cn := smo2.bcn
        have hb_mo_n := smo2.bn
        have hb_mo_mn := smo2.bmn
        refine q_iinc (x := nI (k)) (v := nI (k + 1)) dX11_ages_46 rfl (nI_add _ 1) rfl ?_
        change q_W _ _ _ _ _ _ _ _ _ [.ref (215), .int (xd), .int (nI (k + 1)), .int ((al_2 (7 + 3 * k + 2)) + xd)] [] _
        refine q_goto 2 dX11_ages_49 (by decide) ?_
        refine q_forget 3 ?_
        change q_W _ _ _ _ _ _ _ _ _ [.ref (215), .int (xd), .int (nI (k + 1)), q_u] [] _
        exact ih (k + 1) (upd al_2 (7 + (3 * k) + 2) (90)) h2 smo2 p2 (by omega) (fun r2_0 e9 => K r2_0 (by simp only [x_mo_ages_2, if_neg b36]; exact e9))
def x_mo_ages (al : Nat → Int32) (n : Nat) (xd : Int32) : (Nat → Int32) := (let a3_0 := x_mo_ages_2 xd n 0 al; (upd a3_0 2 ((a3_0 2) + xd)))
set_option maxRecDepth 100000 in
set_option maxHeartbeats 8000000 in
theorem e_mo_ages {g : q_G} {h : q_H} {d : Nat} {th : Int32} {al : Nat → Int32} {cg : Nat} {sv : Bool} {rs : Int32} {ac : Int32} {rj : Int32} {ro : Nat → Int32} {ad : Nat → Int32} {bf : Nat → Int32} {ln : Nat → Int32} {lz : Nat} {ip : Nat → Int32} {ty : Nat} {he : Nat} {er : Int32} {ea : Int32} {fa : Int32} {cm : Nat → Int32} {cn : Nat} {n : Nat} {mn : Nat} (smo : z_Mo h 215 th al cg sv rs ac rj ro ad bf ln lz ip ty he er ea fa cm cn n mn)  (xd : Int32)   (hd : 1 ≤ d) : q_Spec g mX11_ages d 0 0 [.ref (215), .int (xd)] h (q_chg (.inl none) (fun h1 => z_Mo h1 215 th (x_mo_ages al n xd) cg sv rs ac rj ro ad bf ln lz ip ty he er ea fa cm cn n mn ∧ q_same h h1 215 8)) := by
  have hb_mo_cg := smo.bcg
  have hb_mo_lz := smo.blz
  have hb_mo_ty := smo.bty
  have hb_mo_he := smo.bhe
  have hb_mo_cn := smo.bcn
  have hb_mo_n := smo.bn
  have hb_mo_mn := smo.bmn
  have ho_mo_cg := smo.bcg
  have ho_mo_lz := smo.blz
  have ho_mo_ty := smo.bty
  have ho_mo_he := smo.bhe
  have ho_mo_cn := smo.bcn
  have ho_mo_n := smo.bn
  have ho_mo_mn := smo.bmn
  have p0 : q_same h h 215 8 := q_same.rfl'
  refine q_enter (by decide +kernel) rfl rfl (Nat.le_of_ble_eq_true rfl) (fun hz => ?_)
  change q_W _ _ _ _ _ _ _ _ _ [.ref (215), .int (xd), q_u, q_u] [] _
  refine q_iconst (v := 0) dX11_ages_0 rfl ?_
  refine q_istore_n dX11_ages_1 (by decide) rfl ?_
  change q_W _ _ _ _ _ _ _ _ _ [.ref (215), .int (xd), .int (0), q_u] [] _
  change q_W _ _ _ _ _ _ _ _ _ [.ref (215), .int (xd), .int (0), q_u] [] _
  refine l_mo_ages_2 ho_mo_cg ho_mo_lz ho_mo_ty ho_mo_he ho_mo_cn ho_mo_n ho_mo_mn (by omega) (by omega) (by omega) n 0 al h smo p0 (by omega) (fun a3_0 x3 h4 smo4 p4 => ?_)
  have hb_mo_cg := smo4.bcg
  have hb_mo_lz := smo4.blz
  have hb_mo_ty := smo4.bty
  have hb_mo_he := smo4.bhe
  have hb_mo_cn := smo4.bcn
  have hb_mo_n := smo4.bn
  have hb_mo_mn := smo4.bmn
  change q_W _ _ _ _ _ _ _ _ 52 [.ref (215), .int (xd), q_u, q_u] [] _
  refine q_aload_n (by first | assumption | omega | decide | (rw [q_R0e]; omega)) dX11_ages_52 rfl ?_
  refine q_getf (k := 1) (v := .ref (216)) kC_X11 kL_X11_9 rfl (by decide) dX11_ages_53 smo4.c0 rfl ?_
  refine q_iconst (v := 2) dX11_ages_56 rfl ?_
  refine q_dup2 dX11_ages_57 rfl rfl ?_
  refine q_ialdN (j := 2) (f := a3_0) dX11_ages_58 smo4.c1 (by omega) (by decide) ?_
  change q_W _ _ _ _ _ _ _ _ _ _ [.int (a3_0 2), .int (2), .ref (216)] _
  refine q_iload_n dX11_ages_59 rfl ?_
  refine q_iadd dX11_ages_60 ?_
  refine q_iastN (j := 2) dX11_ages_61 smo4.c1 (by omega) (by decide) ?_
  refine z_genW (B := fun H => z_Mo H 215 th (upd a3_0 2 ((a3_0 2) + xd)) cg sv rs ac rj ro ad bf ln lz ip ty he er ea fa cm cn n mn ∧ q_same h H 215 8) ⟨z_Mo.put1 smo4 (n' := n) (mn' := mn) (hbn := by first | omega | (split <;> omega)) (hbmn := by first | omega | (split <;> omega)) (hen := (upd_ne (by omega)).trans smo4.en) (hemn := (upd_ne (by omega)).trans smo4.emn), p4.trans (q_same.set (by omega) (by omega))⟩ (fun h5 hB => ?_)
  obtain ⟨smo5, p5⟩ := hB
  have hb_mo_cg := smo5.bcg
  have hb_mo_lz := smo5.blz
  have hb_mo_ty := smo5.bty
  have hb_mo_he := smo5.bhe
  have hb_mo_cn := smo5.bcn
  have hb_mo_n := smo5.bn
  have hb_mo_mn := smo5.bmn
  have hE : x_mo_ages al n xd = (upd a3_0 2 ((a3_0 2) + xd)) := by simp only [x_mo_ages, x3]
  rw [hE]
  exact q_return dX11_ages_62 rfl (by omega) (by omega) ⟨rfl, smo5, p5⟩
def x_mo_passes_14 (al : Nat → Int32) (n : Nat) : Nat → Nat → (Nat → Int32) → (Nat → Int32)
  | 0, _, bf_14 => bf_14
  | r + 1, k, bf_14 => x_mo_passes_14 al n r (k + 1) (upd bf_14 k (x_mo_attackers al n k))
set_option maxRecDepth 100000 in
set_option maxHeartbeats 8000000 in
theorem l_mo_passes_14 {g : q_G} {h : q_H} {d mc ms kc ks : Nat} {Q : q_O → q_H → Prop} {th : Int32} {al : Nat → Int32} {cg : Nat} {sv : Bool} {rs : Int32} {ac : Int32} {rj : Int32} {ro : Nat → Int32} {ad : Nat → Int32} {ln : Nat → Int32} {lz : Nat} {ip : Nat → Int32} {ty : Nat} {he : Nat} {er : Int32} {ea : Int32} {fa : Int32} {cm : Nat → Int32} {cn : Nat} {n : Nat} {mn : Nat} {xd : Int32}   (ho_mo_cg : cg ≤ 8) (ho_mo_lz : lz ≤ 160) (ho_mo_ty : ty ≤ 60) (ho_mo_he : he ≤ 60) (ho_mo_cn : cn ≤ 61) (ho_mo_n : n ≤ 8) (ho_mo_mn : mn ≤ 12)  (hd : 4 ≤ d) (hkc : kc + 0 ≤ mc) (hks : ks + 0 ≤ ms) : ∀ (r k : Nat) (bf_14 : Nat → Int32) (hh : q_H) (smo_14 : z_Mo hh 215 th al cg sv rs ac rj ro ad bf_14 ln lz ip ty he er ea fa cm cn n mn) (pH : q_same h hh 215 8) (hk_14 : k + r = n) (K : ∀ (r14_0 : Nat → Int32), x_mo_passes_14 al n r k bf_14 = r14_0 → ∀ h2, z_Mo h2 215 th al cg sv rs ac rj ro ad r14_0 ln lz ip ty he er ea fa cm cn n mn → q_same h h2 215 8 → q_W g mX11_passes d mc ms Q kc ks 41 [.ref (215), .int (xd), q_u] [] h2), q_W g mX11_passes d mc ms Q kc ks 14 [.ref (215), .int (xd), .int (nI (k))] [] hh := by
  intro r
  induction r with
  | zero =>
    intro k bf_14 hh smo_14 pH hk_14 K
    have hb_mo_cg := smo_14.bcg
    have hb_mo_lz := smo_14.blz
    have hb_mo_ty := smo_14.bty
    have hb_mo_he := smo_14.bhe
    have hb_mo_cn := smo_14.bcn
    have hb_mo_n := smo_14.bn
    have hb_mo_mn := smo_14.bmn
    refine q_iload_n dX11_passes_14 rfl ?_
    refine q_aload_n (by first | assumption | omega | decide | (rw [q_R0e]; omega)) dX11_passes_15 rfl ?_
    refine q_getf (k := 1) (v := .ref (216)) kC_X11 kL_X11_9 rfl (by decide) dX11_passes_16 smo_14.c0 rfl ?_
    refine q_iconst (v := 0) dX11_passes_19 rfl ?_
    refine q_ialdN (j := 0) (f := al) dX11_passes_20 smo_14.c1 (by omega) (by decide) ?_
    rw [smo_14.en]
    change q_W _ _ _ _ _ _ _ _ _ _ [.int (nI (n)), .int (nI (k))] _
    refine q_icmp_ge 41 dX11_passes_21 (by decide) (fun b21 => ?_) (fun b21 => ?_)
    · have b21 := (nI_leI (a := n) (b := k) (by omega) (by omega)).mp b21
      refine q_forget 2 ?_
      change q_W _ _ _ _ _ _ _ _ _ [.ref (215), .int (xd), q_u] [] _
      exact K bf_14 (by simp only [x_mo_passes_14]) hh smo_14 pH
    · have b21 : ¬ (n ≤ k) := fun q => b21 ((nI_leI (a := n) (b := k) (by omega) (by omega)).mpr q)
      exact absurd b21 (by omega)
  | succ r ih =>
    intro k bf_14 hh smo_14 pH hk_14 K
    have hb_mo_cg := smo_14.bcg
    have hb_mo_lz := smo_14.blz
    have hb_mo_ty := smo_14.bty
    have hb_mo_he := smo_14.bhe
    have hb_mo_cn := smo_14.bcn
    have hb_mo_n := smo_14.bn
    have hb_mo_mn := smo_14.bmn
    refine q_iload_n dX11_passes_14 rfl ?_
    refine q_aload_n (by first | assumption | omega | decide | (rw [q_R0e]; omega)) dX11_passes_15 rfl ?_
    refine q_getf (k := 1) (v := .ref (216)) kC_X11 kL_X11_9 rfl (by decide) dX11_passes_16 smo_14.c0 rfl ?_
    refine q_iconst (v := 0) dX11_passes_19 rfl ?_
    refine q_ialdN (j := 0) (f := al) dX11_passes_20 smo_14.c1 (by omega) (by decide) ?_
    rw [smo_14.en]
    change q_W _ _ _ _ _ _ _ _ _ _ [.int (nI (n)), .int (nI (k))] _
    refine q_icmp_ge 41 dX11_passes_21 (by decide) (fun b21 => ?_) (fun b21 => ?_)
    · have b21 := (nI_leI (a := n) (b := k) (by omega) (by omega)).mp b21
      exact absurd b21 (by omega)
    · have b21 : ¬ (n ≤ k) := fun q => b21 ((nI_leI (a := n) (b := k) (by omega) (by omega)).mpr q)
      refine q_aload_n (by first | assumption | omega | decide | (rw [q_R0e]; omega)) dX11_passes_24 rfl ?_
      refine q_getf (k := 9) (v := .ref (219)) kC_X11 kL_X11_20 rfl (by decide) dX11_passes_25 smo_14.c0 rfl ?_
      refine q_iload_n dX11_passes_28 rfl ?_
      refine q_aload_n (by first | assumption | omega | decide | (rw [q_R0e]; omega)) dX11_passes_29 rfl ?_
      refine q_iload_n dX11_passes_30 rfl ?_
      refine q_invV (mc' := 0) (ms' := 0) (d' := d - 1) (as := [.int (nI (k))]) dX11_passes_31 kM_X11_attackers kL_X11_80 kI_X11_attackers kS_X11_attackers rfl (kC_X11.1) smo_14.c0 rfl rfl (Nat.le_of_ble_eq_true rfl) (by omega) (by decide) (by omega) (by omega) (e_mo_attackers (d := d - 1) smo_14 k (by omega) (by omega)) (q_kR ?_) q_xR
      change q_W _ _ _ _ _ _ _ _ 34 [.ref (215), .int (xd), .int (nI (k))] [.int (x_mo_attackers al n k), .int (nI (k)), .ref (219)] _
      refine q_iastN (j := k) dX11_passes_34 smo_14.c4 (by omega) (by decide) ?_
      refine z_genW (B := fun H => z_Mo H 215 th al cg sv rs ac rj ro ad (upd bf_14 k (x_mo_attackers al n k)) ln lz ip ty he er ea fa cm cn n mn ∧ q_same h H 215 8) ⟨z_Mo.put4 smo_14, pH.trans (q_same.set (by omega) (by omega))⟩ (fun h1 hB => ?_)
      obtain ⟨smo1, p1⟩ := hB
      have hb_mo_cg := smo1.bcg
      have hb_mo_lz := smo1.blz
      have hb_mo_ty := smo1.bty
      have hb_mo_he := smo1.bhe
      have hb_mo_cn := smo1.bcn
      have hb_mo_n := smo1.bn
      have hb_mo_mn := smo1.bmn
      refine q_iinc (x := nI (k)) (v := nI (k + 1)) dX11_passes_35 rfl (nI_add _ 1) rfl ?_
      change q_W _ _ _ _ _ _ _ _ _ [.ref (215), .int (xd), .int (nI (k + 1))] [] _
      refine q_goto 14 dX11_passes_38 (by decide) ?_
      change q_W _ _ _ _ _ _ _ _ _ [.ref (215), .int (xd), .int (nI (k + 1))] [] _
      exact ih (k + 1) (upd bf_14 k (x_mo_attackers al n k)) h1 smo1 p1 (by omega) (fun r14_0 e9 => K r14_0 (by simp only [x_mo_passes_14]; exact e9))
def x_mo_passes_53 (n : Nat) (a2_0 : Nat → Int32) (y4_al : Nat → Int32) : Nat → Nat → (Int32) → (Int32)
  | 0, _, rs_53 => rs_53
  | r + 1, kk, rs_53 => x_mo_passes_53 n a2_0 y4_al r (kk + 1) (rs_53 + (x_mo_size ((a2_0 kk) ^^^ (x_mo_attackers y4_al n kk))))
set_option maxRecDepth 100000 in
set_option maxHeartbeats 8000000 in
theorem l_mo_passes_53 {g : q_G} {h : q_H} {d mc ms kc ks : Nat} {Q : q_O → q_H → Prop} {th : Int32} {cg : Nat} {sv : Bool} {ac : Int32} {rj : Int32} {ro : Nat → Int32} {ad : Nat → Int32} {ln : Nat → Int32} {lz : Nat} {ip : Nat → Int32} {ty : Nat} {he : Nat} {er : Int32} {ea : Int32} {fa : Int32} {cm : Nat → Int32} {cn : Nat} {n : Nat} {mn : Nat} {a2_0 : Nat → Int32} {y4_al : Nat → Int32}   (ho_mo_cg : cg ≤ 8) (ho_mo_lz : lz ≤ 160) (ho_mo_ty : ty ≤ 60) (ho_mo_he : he ≤ 60) (ho_mo_cn : cn ≤ 61) (ho_mo_n : n ≤ 8) (ho_mo_mn : mn ≤ 12)  (hd : 4 ≤ d) (hkc : kc + 0 ≤ mc) (hks : ks + 0 ≤ ms) : ∀ (r kk : Nat) (rs_53 : Int32) (hh : q_H) (smo_53 : z_Mo hh 215 th y4_al cg sv rs_53 ac rj ro ad a2_0 ln lz ip ty he er ea fa cm cn n mn) (pH : q_same h hh 215 8) (hk_53 : kk + r = n) (K : ∀ (r53_0 : Int32), x_mo_passes_53 n a2_0 y4_al r kk rs_53 = r53_0 → ∀ h2, z_Mo h2 215 th y4_al cg sv r53_0 ac rj ro ad a2_0 ln lz ip ty he er ea fa cm cn n mn → q_same h h2 215 8 → q_W g mX11_passes d mc ms Q kc ks 93 [q_u, q_u, q_u] [] h2), q_W g mX11_passes d mc ms Q kc ks 53 [.ref (215), q_u, .int (nI (kk))] [] hh := by
  intro r
  induction r with
  | zero =>
    intro kk rs_53 hh smo_53 pH hk_53 K
    have hb_mo_cg := smo_53.bcg
    have hb_mo_lz := smo_53.blz
    have hb_mo_ty := smo_53.bty
    have hb_mo_he := smo_53.bhe
    have hb_mo_cn := smo_53.bcn
    have hb_mo_n := smo_53.bn
    have hb_mo_mn := smo_53.bmn
    refine q_iload_n dX11_passes_53 rfl ?_
    refine q_aload_n (by first | assumption | omega | decide | (rw [q_R0e]; omega)) dX11_passes_54 rfl ?_
    refine q_getf (k := 1) (v := .ref (216)) kC_X11 kL_X11_9 rfl (by decide) dX11_passes_55 smo_53.c0 rfl ?_
    refine q_iconst (v := 0) dX11_passes_58 rfl ?_
    refine q_ialdN (j := 0) (f := y4_al) dX11_passes_59 smo_53.c1 (by omega) (by decide) ?_
    rw [smo_53.en]
    change q_W _ _ _ _ _ _ _ _ _ _ [.int (nI (n)), .int (nI (kk))] _
    refine q_icmp_ge 93 dX11_passes_60 (by decide) (fun b60 => ?_) (fun b60 => ?_)
    · have b60 := (nI_leI (a := n) (b := kk) (by omega) (by omega)).mp b60
      refine q_forget 0 ?_
      refine q_forget 2 ?_
      change q_W _ _ _ _ _ _ _ _ _ [q_u, q_u, q_u] [] _
      exact K rs_53 (by simp only [x_mo_passes_53]) hh smo_53 pH
    · have b60 : ¬ (n ≤ kk) := fun q => b60 ((nI_leI (a := n) (b := kk) (by omega) (by omega)).mpr q)
      exact absurd b60 (by omega)
  | succ r ih =>
    intro kk rs_53 hh smo_53 pH hk_53 K
    have hb_mo_cg := smo_53.bcg
    have hb_mo_lz := smo_53.blz
    have hb_mo_ty := smo_53.bty
    have hb_mo_he := smo_53.bhe
    have hb_mo_cn := smo_53.bcn
    have hb_mo_n := smo_53.bn
    have hb_mo_mn := smo_53.bmn
    refine q_iload_n dX11_passes_53 rfl ?_
    refine q_aload_n (by first | assumption | omega | decide | (rw [q_R0e]; omega)) dX11_passes_54 rfl ?_
    refine q_getf (k := 1) (v := .ref (216)) kC_X11 kL_X11_9 rfl (by decide) dX11_passes_55 smo_53.c0 rfl ?_
    refine q_iconst (v := 0) dX11_passes_58 rfl ?_
    refine q_ialdN (j := 0) (f := y4_al) dX11_passes_59 smo_53.c1 (by omega) (by decide) ?_
    rw [smo_53.en]
    change q_W _ _ _ _ _ _ _ _ _ _ [.int (nI (n)), .int (nI (kk))] _
    refine q_icmp_ge 93 dX11_passes_60 (by decide) (fun b60 => ?_) (fun b60 => ?_)
    · have b60 := (nI_leI (a := n) (b := kk) (by omega) (by omega)).mp b60
      exact absurd b60 (by omega)
    · have b60 : ¬ (n ≤ kk) := fun q => b60 ((nI_leI (a := n) (b := kk) (by omega) (by omega)).mpr q)
      refine q_aload_n (by first | assumption | omega | decide | (rw [q_R0e]; omega)) dX11_passes_63 rfl ?_
      refine q_dup dX11_passes_64 rfl ?_
      refine q_getf (k := 4) (v := .int (rs_53)) kC_X11 kL_X11_50 rfl (by decide) dX11_passes_65 smo_53.c0 rfl ?_
      refine q_aload_n (by first | assumption | omega | decide | (rw [q_R0e]; omega)) dX11_passes_68 rfl ?_
      refine q_getf (k := 9) (v := .ref (219)) kC_X11 kL_X11_20 rfl (by decide) dX11_passes_69 smo_53.c0 rfl ?_
      refine q_iload_n dX11_passes_72 rfl ?_
      refine q_ialdN (j := kk) (f := a2_0) dX11_passes_73 smo_53.c4 (by omega) (by decide) ?_
      change q_W _ _ _ _ _ _ _ _ _ _ [.int (a2_0 kk), .int (rs_53), .ref (215)] _
      refine q_aload_n (by first | assumption | omega | decide | (rw [q_R0e]; omega)) dX11_passes_74 rfl ?_
      refine q_iload_n dX11_passes_75 rfl ?_
      refine q_invV (mc' := 0) (ms' := 0) (d' := d - 1) (as := [.int (nI (kk))]) dX11_passes_76 kM_X11_attackers kL_X11_80 kI_X11_attackers kS_X11_attackers rfl (kC_X11.1) smo_53.c0 rfl rfl (Nat.le_of_ble_eq_true rfl) (by omega) (by decide) (by omega) (by omega) (e_mo_attackers (d := d - 1) smo_53 kk (by omega) (by omega)) (q_kR ?_) q_xR
      change q_W _ _ _ _ _ _ _ _ 79 [.ref (215), q_u, .int (nI (kk))] [.int (x_mo_attackers y4_al n kk), .int (a2_0 kk), .int (rs_53), .ref (215)] _
      refine q_ixor dX11_passes_79 ?_
      refine q_invS (mc' := 0) (ms' := 0) (d' := d - 1) (as := [.int ((a2_0 kk) ^^^ (x_mo_attackers y4_al n kk))]) dX11_passes_80 kM_X11_size kL_X11_68 kT_X11_size rfl rfl rfl (Nat.le_of_ble_eq_true rfl) (by omega) (by decide) (by omega) (by omega) (e_mo_size (d := d - 1) ((a2_0 kk) ^^^ (x_mo_attackers y4_al n kk)) (by omega)) (q_kR ?_) q_xR
      change q_W _ _ _ _ _ _ _ _ 83 [.ref (215), q_u, .int (nI (kk))] [.int (x_mo_size ((a2_0 kk) ^^^ (x_mo_attackers y4_al n kk))), .int (rs_53), .ref (215)] _
      refine q_iadd dX11_passes_83 ?_
      refine q_putf (k := 4) kC_X11 kL_X11_50 rfl (by decide) rfl dX11_passes_84 smo_53.c0 (Nat.le_of_ble_eq_true rfl) ⟨rfl, rfl⟩ rfl ?_
      refine z_genW (B := fun H => z_Mo H 215 th y4_al cg sv (rs_53 + (x_mo_size ((a2_0 kk) ^^^ (x_mo_attackers y4_al n kk)))) ac rj ro ad a2_0 ln lz ip ty he er ea fa cm cn n mn ∧ q_same h H 215 8) ⟨z_Mo.put0 smo_53 (cg' := cg) (sv' := sv) (lz' := lz) (ty' := ty) (he' := he) (cn' := cn) (hbcg := by first | omega | (split <;> omega)) (hblz := by first | omega | (split <;> omega)) (hbty := by first | omega | (split <;> omega)) (hbhe := by first | omega | (split <;> omega)) (hbcn := by first | omega | (split <;> omega)), pH.trans (q_same.set (by omega) (by omega))⟩ (fun h7 hB => ?_)
      obtain ⟨smo7, p7⟩ := hB
      have hb_mo_cg := smo7.bcg
      have hb_mo_lz := smo7.blz
      have hb_mo_ty := smo7.bty
      have hb_mo_he := smo7.bhe
      have hb_mo_cn := smo7.bcn
      have hb_mo_n := smo7.bn
      have hb_mo_mn := smo7.bmn
      refine q_iinc (x := nI (kk)) (v := nI (kk + 1)) dX11_passes_87 rfl (nI_add _ 1) rfl ?_
      change q_W _ _ _ _ _ _ _ _ _ [.ref (215), q_u, .int (nI (kk + 1))] [] _
      refine q_goto 53 dX11_passes_90 (by decide) ?_
      change q_W _ _ _ _ _ _ _ _ _ [.ref (215), q_u, .int (nI (kk + 1))] [] _
      exact ih (kk + 1) (rs_53 + (x_mo_size ((a2_0 kk) ^^^ (x_mo_attackers y4_al n kk)))) h7 smo7 p7 (by omega) (fun r53_0 e9 => K r53_0 (by simp only [x_mo_passes_53]; exact e9))
def x_mo_passes (al : Nat → Int32) (rs : Int32) (bf : Nat → Int32) (n : Nat) (xd : Int32) : (Int32) × (Nat → Int32) × (Int32) × (Nat → Int32) := (if x_mo_in xd 1 90 then (let a2_0 := x_mo_passes_14 al n n 0 bf; (let y4_al := x_mo_ages al n xd; (let a8_0 := x_mo_passes_53 n a2_0 y4_al n 0 0; (0, y4_al, a8_0, a2_0)))) else (1, al, rs, bf))
set_option maxRecDepth 100000 in
set_option maxHeartbeats 8000000 in
theorem e_mo_passes {g : q_G} {h : q_H} {d : Nat} {th : Int32} {al : Nat → Int32} {cg : Nat} {sv : Bool} {rs : Int32} {ac : Int32} {rj : Int32} {ro : Nat → Int32} {ad : Nat → Int32} {bf : Nat → Int32} {ln : Nat → Int32} {lz : Nat} {ip : Nat → Int32} {ty : Nat} {he : Nat} {er : Int32} {ea : Int32} {fa : Int32} {cm : Nat → Int32} {cn : Nat} {n : Nat} {mn : Nat} (smo : z_Mo h 215 th al cg sv rs ac rj ro ad bf ln lz ip ty he er ea fa cm cn n mn)  (xd : Int32)   (hd : 4 ≤ d) : q_Spec g mX11_passes d 0 0 [.ref (215), .int (xd)] h (q_chg (.inl (some (.int (x_mo_passes al rs bf n xd).1))) (fun h1 => z_Mo h1 215 th ((x_mo_passes al rs bf n xd).2.1) cg sv ((x_mo_passes al rs bf n xd).2.2.1) ac rj ro ad ((x_mo_passes al rs bf n xd).2.2.2) ln lz ip ty he er ea fa cm cn n mn ∧ q_same h h1 215 8)) := by
  have hb_mo_cg := smo.bcg
  have hb_mo_lz := smo.blz
  have hb_mo_ty := smo.bty
  have hb_mo_he := smo.bhe
  have hb_mo_cn := smo.bcn
  have hb_mo_n := smo.bn
  have hb_mo_mn := smo.bmn
  have ho_mo_cg := smo.bcg
  have ho_mo_lz := smo.blz
  have ho_mo_ty := smo.bty
  have ho_mo_he := smo.bhe
  have ho_mo_cn := smo.bcn
  have ho_mo_n := smo.bn
  have ho_mo_mn := smo.bmn
  have p0 : q_same h h 215 8 := q_same.rfl'
  refine q_enter (by decide +kernel) rfl rfl (Nat.le_of_ble_eq_true rfl) (fun hz => ?_)
  change q_W _ _ _ _ _ _ _ _ _ [.ref (215), .int (xd), q_u] [] _
  refine q_iload_n dX11_passes_0 rfl ?_
  refine q_iconst (v := 1) dX11_passes_1 rfl ?_
  refine q_bipush (v := 90) dX11_passes_2 rfl ?_
  refine q_invS (mc' := 0) (ms' := 0) (d' := d - 1) (as := [.int (xd), .int (1), .int (90)]) dX11_passes_4 kM_X11_in kL_X11_109 kT_X11_in rfl rfl rfl (Nat.le_of_ble_eq_true rfl) (by omega) (by decide) (by omega) (by omega) (e_mo_in (d := d - 1) xd 1 90 (by omega)) (q_kR ?_) q_xR
  change q_W _ _ _ _ _ _ _ _ 7 [.ref (215), .int (xd), q_u] [.int (z_b (x_mo_in xd 1 90))] _
  refine q_if_ne 12 dX11_passes_7 (by decide) (fun b7 => ?_) (fun b7 => ?_)
  · have b7 := z_b1 b7
    refine q_iconst (v := 0) dX11_passes_12 rfl ?_
    refine q_istore_n dX11_passes_13 (by decide) rfl ?_
    change q_W _ _ _ _ _ _ _ _ _ [.ref (215), .int (xd), .int (0)] [] _
    change q_W _ _ _ _ _ _ _ _ _ [.ref (215), .int (xd), .int (0)] [] _
    refine l_mo_passes_14 ho_mo_cg ho_mo_lz ho_mo_ty ho_mo_he ho_mo_cn ho_mo_n ho_mo_mn (by omega) (by omega) (by omega) n 0 bf h smo p0 (by omega) (fun a2_0 x2 h3 smo3 p3 => ?_)
    have hb_mo_cg := smo3.bcg
    have hb_mo_lz := smo3.blz
    have hb_mo_ty := smo3.bty
    have hb_mo_he := smo3.bhe
    have hb_mo_cn := smo3.bcn
    have hb_mo_n := smo3.bn
    have hb_mo_mn := smo3.bmn
    change q_W _ _ _ _ _ _ _ _ 41 [.ref (215), .int (xd), q_u] [] _
    refine q_aload_n (by first | assumption | omega | decide | (rw [q_R0e]; omega)) dX11_passes_41 rfl ?_
    refine q_iload_n dX11_passes_42 rfl ?_
    obtain ⟨y4_al, x4⟩ : ∃ z, x_mo_ages al n xd = z := ⟨_, rfl⟩
    have e9 := e_mo_ages (g := g) (h := h3) (d := d - 1) smo3 xd (by omega)
    rw [x4] at e9
    refine q_invV (mc' := 0) (ms' := 0) (d' := d - 1) (as := [.int (xd)]) dX11_passes_43 kM_X11_ages kL_X11_171 kI_X11_ages kS_X11_ages rfl (kC_X11.1) smo3.c0 rfl rfl (Nat.le_of_ble_eq_true rfl) (by omega) (by decide) (by omega) (by omega) (e9) (q_kC (fun h5 hB => ?_)) q_xC
    obtain ⟨t5_0, pp5⟩ := hB
    have smo5 := t5_0
    have p5 := p3.trans (pp5.wide (by omega) (by omega))
    have hb_mo_cg := smo5.bcg
    have hb_mo_lz := smo5.blz
    have hb_mo_ty := smo5.bty
    have hb_mo_he := smo5.bhe
    have hb_mo_cn := smo5.bcn
    have hb_mo_n := smo5.bn
    have hb_mo_mn := smo5.bmn
    change q_W _ _ _ _ _ _ _ _ 46 [.ref (215), .int (xd), q_u] [] _
    refine q_aload_n (by first | assumption | omega | decide | (rw [q_R0e]; omega)) dX11_passes_46 rfl ?_
    refine q_iconst (v := 0) dX11_passes_47 rfl ?_
    refine q_putf (k := 4) kC_X11 kL_X11_50 rfl (by decide) rfl dX11_passes_48 smo5.c0 (Nat.le_of_ble_eq_true rfl) ⟨rfl, rfl⟩ rfl ?_
    refine z_genW (B := fun H => z_Mo H 215 th y4_al cg sv 0 ac rj ro ad a2_0 ln lz ip ty he er ea fa cm cn n mn ∧ q_same h H 215 8) ⟨z_Mo.put0 smo5 (cg' := cg) (sv' := sv) (lz' := lz) (ty' := ty) (he' := he) (cn' := cn) (hbcg := by first | omega | (split <;> omega)) (hblz := by first | omega | (split <;> omega)) (hbty := by first | omega | (split <;> omega)) (hbhe := by first | omega | (split <;> omega)) (hbcn := by first | omega | (split <;> omega)), p5.trans (q_same.set (by omega) (by omega))⟩ (fun h6 hB => ?_)
    obtain ⟨smo6, p6⟩ := hB
    have hb_mo_cg := smo6.bcg
    have hb_mo_lz := smo6.blz
    have hb_mo_ty := smo6.bty
    have hb_mo_he := smo6.bhe
    have hb_mo_cn := smo6.bcn
    have hb_mo_n := smo6.bn
    have hb_mo_mn := smo6.bmn
    refine q_iconst (v := 0) dX11_passes_51 rfl ?_
    refine q_istore_n dX11_passes_52 (by decide) rfl ?_
    change q_W _ _ _ _ _ _ _ _ _ [.ref (215), .int (xd), .int (0)] [] _
    refine q_forget 1 ?_
    change q_W _ _ _ _ _ _ _ _ _ [.ref (215), q_u, .int (0)] [] _
    refine l_mo_passes_53 ho_mo_cg ho_mo_lz ho_mo_ty ho_mo_he ho_mo_cn ho_mo_n ho_mo_mn (by omega) (by omega) (by omega) n 0 0 h6 smo6 p6 (by omega) (fun a8_0 x8 h9 smo9 p9 => ?_)
    have hb_mo_cg := smo9.bcg
    have hb_mo_lz := smo9.blz
    have hb_mo_ty := smo9.bty
    have hb_mo_he := smo9.bhe
    have hb_mo_cn := smo9.bcn
    have hb_mo_n := smo9.bn
    have hb_mo_mn := smo9.bmn
    change q_W _ _ _ _ _ _ _ _ 93 [q_u, q_u, q_u] [] _
    refine q_iconst (v := 0) dX11_passes_93 rfl ?_
    have hE : x_mo_passes al rs bf n xd = (0, y4_al, a8_0, a2_0) := by simp only [x_mo_passes, if_pos b7, x2, x4, x8]
    rw [hE]
    exact q_ireturn dX11_passes_94 rfl rfl (by omega) (by omega) ⟨rfl, smo9, p9⟩
  · have b7 := z_b0n b7
    refine q_iconst (v := 1) dX11_passes_10 rfl ?_
    have hE : x_mo_passes al rs bf n xd = (1, al, rs, bf) := by simp only [x_mo_passes, if_neg b7]
    rw [hE]
    exact q_ireturn dX11_passes_11 rfl rfl (by omega) (by omega) ⟨rfl, smo, p0⟩