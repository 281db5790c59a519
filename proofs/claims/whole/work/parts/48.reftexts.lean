def z_c16 (x : Int32) : Int32 := (x.toUInt32 % 65536).toInt32
theorem z_c16N {c : Nat} (h : c < 65536) : z_c16 (nI c) = nI c := by
  unfold z_c16
  rw [pk_char, pk_tn (by omega), Nat.mod_eq_of_lt h]
def x_mo_writes (ln : Nat → Int32) (lz : Nat) (xs : Int32) : (Nat → Int32) × (Nat) := (upd ln lz (((xs).toUInt32 % 65536).toInt32), lz + 1)
set_option maxRecDepth 100000 in
set_option maxHeartbeats 8000000 in
theorem e_mo_writes {g : q_G} {h : q_H} {d : Nat} {th : Int32} {al : Nat → Int32} {cg : Nat} {sv : Bool} {rs : Int32} {ac : Int32} {rj : Int32} {ro : Nat → Int32} {ad : Nat → Int32} {bf : Nat → Int32} {ln : Nat → Int32} {lz : Nat} {ip : Nat → Int32} {ty : Nat} {he : Nat} {er : Int32} {ea : Int32} {fa : Int32} {cm : Nat → Int32} {cn : Nat} {n : Nat} {mn : Nat} (smo : z_Mo h 215 th al cg sv rs ac rj ro ad bf ln lz ip ty he er ea fa cm cn n mn)  (xs : Int32) (hlz : lz < 160)  (hd : 0 ≤ d) : q_Spec g mX11_writes d 0 0 [.ref (215), .int (xs)] h (q_chg (.inl none) (fun h1 => z_Mo h1 215 th al cg sv rs ac rj ro ad bf ((x_mo_writes ln lz xs).1) ((x_mo_writes ln lz xs).2) ip ty he er ea fa cm cn n mn ∧ q_same h h1 215 8)) := by
  have hb_mo_cg := smo.bcg
  have hb_mo_lz := smo.blz
  have hb_mo_ty := smo.bty
  have hb_mo_he := smo.bhe
  have hb_mo_cn := smo.bcn
  have hb_mo_n := smo.bn
  have hb_mo_mn := smo.bmn
  have ho_mo_cg := smo.bcg
  have ho_mo_lz := smo.blz
  have ho_mo_ty := smo.bty
  have ho_mo_he := smo.bhe
  have ho_mo_cn := smo.bcn
  have ho_mo_n := smo.bn
  have ho_mo_mn := smo.bmn
  have p0 : q_same h h 215 8 := q_same.rfl'
  refine q_enter (by decide +kernel) rfl rfl (Nat.le_of_ble_eq_true rfl) (fun hz => ?_)
  change q_W _ _ _ _ _ _ _ _ _ [.ref (215), .int (xs)] [] _
  refine q_aload_n (by first | assumption | omega | decide | (rw [q_R0e]; omega)) dX11_writes_0 rfl ?_
  refine q_getf (k := 10) (v := .ref (220)) kC_X11 kL_X11_23 rfl (by decide) dX11_writes_1 smo.c0 rfl ?_
  refine q_aload_n (by first | assumption | omega | decide | (rw [q_R0e]; omega)) dX11_writes_4 rfl ?_
  refine q_getf (k := 11) (v := .int (nI (lz))) kC_X11 kL_X11_220 rfl (by decide) dX11_writes_5 smo.c0 rfl ?_
  refine q_iload_n dX11_writes_8 rfl ?_
  refine q_i2c dX11_writes_9 rfl ?_
  refine q_castN (j := lz) (pk_vc _) dX11_writes_10 smo.c5 (by omega) (by decide) ?_
  refine z_genW (B := fun H => z_Mo H 215 th al cg sv rs ac rj ro ad bf (upd ln lz (((xs).toUInt32 % 65536).toInt32)) lz ip ty he er ea fa cm cn n mn ∧ q_same h H 215 8) ⟨z_Mo.put5 smo, p0.trans (q_same.set (by omega) (by omega))⟩ (fun h1 hB => ?_)
  obtain ⟨smo1, p1⟩ := hB
  have hb_mo_cg := smo1.bcg
  have hb_mo_lz := smo1.blz
  have hb_mo_ty := smo1.bty
  have hb_mo_he := smo1.bhe
  have hb_mo_cn := smo1.bcn
  have hb_mo_n := smo1.bn
  have hb_mo_mn := smo1.bmn
  refine q_aload_n (by first | assumption | omega | decide | (rw [q_R0e]; omega)) dX11_writes_11 rfl ?_
  refine q_dup dX11_writes_12 rfl ?_
  refine q_getf (k := 11) (v := .int (nI (lz))) kC_X11 kL_X11_220 rfl (by decide) dX11_writes_13 smo1.c0 rfl ?_
  refine q_iconst (v := 1) dX11_writes_16 rfl ?_
  refine q_iaddN (a := lz) (b := 1) dX11_writes_17 ?_
  change q_W _ _ _ _ _ _ _ _ _ _ [.int (nI (lz + 1)), .ref (215)] _
  refine q_putf (k := 11) kC_X11 kL_X11_220 rfl (by decide) rfl dX11_writes_18 smo1.c0 (Nat.le_of_ble_eq_true rfl) ⟨rfl, rfl⟩ rfl ?_
  refine z_genW (B := fun H => z_Mo H 215 th al cg sv rs ac rj ro ad bf (upd ln lz (((xs).toUInt32 % 65536).toInt32)) (lz + 1) ip ty he er ea fa cm cn n mn ∧ q_same h H 215 8) ⟨z_Mo.put0 smo1 (cg' := cg) (sv' := sv) (lz' := lz + 1) (ty' := ty) (he' := he) (cn' := cn) (hbcg := by first | omega | (split <;> omega)) (hblz := by first | omega | (split <;> omega)) (hbty := by first | omega | (split <;> omega)) (hbhe := by first | omega | (split <;> omega)) (hbcn := by first | omega | (split <;> omega)), p1.trans (q_same.set (by omega) (by omega))⟩ (fun h2 hB => ?_)
  obtain ⟨smo2, p2⟩ := hB
  have hb_mo_cg := smo2.bcg
  have hb_mo_lz := smo2.blz
  have hb_mo_ty := smo2.bty
  have hb_mo_he := smo2.bhe
  have hb_mo_cn := smo2.bcn
  have hb_mo_n := smo2.bn
  have hb_mo_mn := smo2.bmn
  have hE : x_mo_writes ln lz xs = (upd ln lz (((xs).toUInt32 % 65536).toInt32), lz + 1) := by simp only [x_mo_writes]
  rw [hE]
  exact q_return dX11_writes_21 rfl (by omega) (by omega) ⟨rfl, smo2, p2⟩
theorem e_writes {g : q_G} {h : q_H} {d : Nat} {th : Int32} {al : Nat → Int32} {cg : Nat} {sv : Bool} {rs : Int32} {ac : Int32} {rj : Int32} {ro : Nat → Int32} {ad : Nat → Int32} {bf : Nat → Int32} {ln : Nat → Int32} {lz : Nat} {ip : Nat → Int32} {ty : Nat} {he : Nat} {er : Int32} {ea : Int32} {fa : Int32} {cm : Nat → Int32} {cn : Nat} {n : Nat} {mn : Nat} (smo : z_Mo h 215 th al cg sv rs ac rj ro ad bf ln lz ip ty he er ea fa cm cn n mn) (xs : Int32) (hlz : lz < 160) (hd : 0 ≤ d) : q_Spec g mX11_writes d 0 0 [.ref 215, .int xs] h (q_chg (.inl none) (fun h1 => z_Mo h1 215 th al cg sv rs ac rj ro ad bf (upd ln lz (z_c16 xs)) (lz + 1) ip ty he er ea fa cm cn n mn ∧ q_same h h1 215 8)) := e_mo_writes smo xs hlz hd
/-- the digits of v from place lz on -/
def x_wr (ln : Nat → Int32) (lz v : Nat) : Nat → Int32 := fun j => if lz ≤ j ∧ j < lz + sb_dg v then nI (sb_dec v (j - lz)) else ln j
theorem z_dg10 {v : Nat} (h : 10 ≤ v) (hv : v < 10000) : sb_dg v = sb_dg (v / 10) + 1 := by
  rw [z_dg hv, z_dg (by omega)]
  repeat' split
  all_goals omega
theorem z_dec10 {v k : Nat} (h : 10 ≤ v) (hv : v < 10000) (hk : k < sb_dg (v / 10)) : sb_dec v k = sb_dec (v / 10) k := by
  unfold sb_dec
  rw [z_dg10 h hv, Nat.div_div_eq_div_mul, ← Nat.pow_succ', show sb_dg (v / 10) + 1 - 1 - k = (sb_dg (v / 10) - 1 - k).succ by omega]
theorem x_wr_1 {ln : Nat → Int32} {lz v : Nat} (hv : v < 10) : upd ln lz (z_c16 (nI (48 + v % 10))) = x_wr ln lz v := by
  funext j
  have hd : sb_dg v = 1 := by rw [z_dg (by omega), if_pos (by omega), if_pos hv]
  unfold x_wr
  rw [hd, z_c16N (by omega)]
  by_cases e : j = lz
  · subst e
    rw [pk_us, if_pos (by omega), Nat.sub_self]
    unfold sb_dec
    rw [hd]
    simp
  · rw [pk_un e, if_neg (by omega)]
theorem x_wr_s {ln : Nat → Int32} {lz v : Nat} (h : 10 ≤ v) (hv : v < 10000) : upd (x_wr ln lz (v / 10)) (lz + sb_dg (v / 10)) (z_c16 (nI (48 + v % 10))) = x_wr ln lz v := by
  funext j
  have hd := z_dg10 h hv
  rw [z_c16N (by omega)]
  by_cases e : j = lz + sb_dg (v / 10)
  · subst e
    unfold x_wr
    rw [pk_us, hd, if_pos (by omega), Nat.add_sub_cancel_left]
    unfold sb_dec
    rw [hd, show sb_dg (v / 10) + 1 - 1 - sb_dg (v / 10) = 0 by omega]
    simp
  · rw [pk_un e]
    unfold x_wr
    rw [hd]
    by_cases c : lz ≤ j ∧ j < lz + sb_dg (v / 10)
    · rw [if_pos c, if_pos (by omega), z_dec10 h hv (by omega)]
    · rw [if_neg c, if_neg (by omega)]
set_option maxRecDepth 100000 in
theorem e_wn : ∀ (f : Nat) {g : q_G} {h : q_H} {d : Nat} {th : Int32} {al : Nat → Int32} {cg : Nat} {sv : Bool} {rs : Int32} {ac : Int32} {rj : Int32} {ro : Nat → Int32} {ad : Nat → Int32} {bf : Nat → Int32} {ln : Nat → Int32} {lz : Nat} {ip : Nat → Int32} {ty : Nat} {he : Nat} {er : Int32} {ea : Int32} {fa : Int32} {cm : Nat → Int32} {cn : Nat} {n : Nat} {mn : Nat} (smo : z_Mo h 215 th al cg sv rs ac rj ro ad bf ln lz ip ty he er ea fa cm cn n mn) (v : Nat) (hf : 0 < f) (hv : v < 10 ^ f) (hv4 : v < 10000) (hlz : lz + sb_dg v ≤ 160) (hd : f + 1 ≤ d), q_Spec g mX11_writesNumber d 0 0 [.ref 215, .int (nI v)] h (q_chg (.inl none) (fun h1 => z_Mo h1 215 th al cg sv rs ac rj ro ad bf (x_wr ln lz v) (lz + sb_dg v) ip ty he er ea fa cm cn n mn ∧ q_same h h1 215 8)) := by
  intro f
  induction f with
  | zero =>
    intros
    next hf _ _ _ _ => exact absurd hf (Nat.lt_irrefl 0)
  | succ f ih =>
    intro g h d th al cg sv rs ac rj ro ad bf ln lz ip ty he er ea fa cm cn n mn smo v hf hv hv4 hlz hd
    refine q_enter (by decide +kernel) rfl rfl (Nat.le_of_ble_eq_true rfl) (fun hz => ?_)
    change q_W _ _ _ _ _ _ _ _ _ [.ref 215, .int (nI v)] [] _
    refine q_iload_n dX11_writesNumber_0 rfl ?_
    refine q_bipush (v := 9) dX11_writesNumber_1 rfl ?_
    refine q_icmp_le 14 dX11_writesNumber_3 (by decide) (fun b => ?_) (fun b => ?_)
    · have hb := (nI_leI (a := v) (b := 9) (by omega) (by omega)).mp b
      have hd1 : sb_dg v = 1 := by rw [z_dg (by omega), if_pos (by omega), if_pos (by omega)]
      refine q_aload_n (by decide) dX11_writesNumber_14 rfl ?_
      refine q_bipush (v := 48) dX11_writesNumber_15 rfl ?_
      refine q_iload_n dX11_writesNumber_17 rfl ?_
      refine q_bipush (v := 10) dX11_writesNumber_18 rfl ?_
      refine q_iremN (a := v) (b := 10) (by omega) (by decide) (by decide) dX11_writesNumber_20 ?_
      refine q_iaddN (a := 48) (b := v % 10) dX11_writesNumber_21 ?_
      refine q_invV (mc' := 0) (ms' := 0) (d' := d - 1) (as := [.int (nI (48 + v % 10))]) dX11_writesNumber_22 kM_X11_writes kL_X11_226 kI_X11_writes kS_X11_writes rfl (kC_X11.1) smo.c0 rfl rfl (Nat.le_of_ble_eq_true rfl) (by omega) (by decide) (by omega) (by omega) (e_writes (d := d - 1) smo _ (by omega) (by omega)) (q_kC (fun h1 hB => ?_)) q_xC
      rw [x_wr_1 (by omega)] at hB
      refine q_return dX11_writesNumber_25 rfl (by omega) (by omega) ⟨rfl, ?_⟩
      rw [hd1]
      exact hB
    · have hb : 10 ≤ v := Nat.lt_of_not_le (fun q => b ((nI_leI (a := v) (b := 9) (by omega) (by omega)).mpr q))
      have hdd := z_dg10 hb hv4
      have hf0 : 0 < f := by
        rcases Nat.eq_zero_or_pos f with e | e
        · subst e
          rw [Nat.pow_succ, Nat.pow_zero] at hv
          omega
        · exact e
      refine q_aload_n (by decide) dX11_writesNumber_6 rfl ?_
      refine q_iload_n dX11_writesNumber_7 rfl ?_
      refine q_bipush (v := 10) dX11_writesNumber_8 rfl ?_
      refine q_idivN (a := v) (b := 10) (by omega) (by decide) (by decide) dX11_writesNumber_10 ?_
      refine q_invV (mc' := 0) (ms' := 0) (d' := d - 1) (as := [.int (nI (v / 10))]) dX11_writesNumber_11 kM_X11_writesNumber kL_X11_223 kI_X11_writesNumber kS_X11_writesNumber rfl (kC_X11.1) smo.c0 rfl rfl (Nat.le_of_ble_eq_true rfl) (by omega) (by decide) (by omega) (by omega) (ih (d := d - 1) smo (v / 10) hf0 (Nat.div_lt_of_lt_mul (by rw [Nat.pow_succ, Nat.mul_comm] at hv; exact hv)) (by omega) (by omega) (by omega)) (q_kC (fun h1 hB => ?_)) q_xC
      obtain ⟨s1, pp⟩ := hB
      change q_W _ _ _ _ _ _ _ _ 14 [.ref 215, .int (nI v)] [] _
      refine q_aload_n (by decide) dX11_writesNumber_14 rfl ?_
      refine q_bipush (v := 48) dX11_writesNumber_15 rfl ?_
      refine q_iload_n dX11_writesNumber_17 rfl ?_
      refine q_bipush (v := 10) dX11_writesNumber_18 rfl ?_
      refine q_iremN (a := v) (b := 10) (by omega) (by decide) (by decide) dX11_writesNumber_20 ?_
      refine q_iaddN (a := 48) (b := v % 10) dX11_writesNumber_21 ?_
      refine q_invV (mc' := 0) (ms' := 0) (d' := d - 1) (as := [.int (nI (48 + v % 10))]) dX11_writesNumber_22 kM_X11_writes kL_X11_226 kI_X11_writes kS_X11_writes rfl (kC_X11.1) s1.c0 rfl rfl (Nat.le_of_ble_eq_true rfl) (by omega) (by decide) (by omega) (by omega) (e_writes (d := d - 1) s1 _ (by omega) (by omega)) (q_kC (fun h2 hB => ?_)) q_xC
      rw [x_wr_s hb hv4] at hB
      refine q_return dX11_writesNumber_25 rfl (by omega) (by omega) ⟨rfl, ?_, pp.trans hB.2⟩
      rw [hdd]
      exact hB.1
theorem e_wnI {g : q_G} {h : q_H} {d : Nat} {th : Int32} {al : Nat → Int32} {cg : Nat} {sv : Bool} {rs : Int32} {ac : Int32} {rj : Int32} {ro : Nat → Int32} {ad : Nat → Int32} {bf : Nat → Int32} {ln : Nat → Int32} {lz : Nat} {ip : Nat → Int32} {ty : Nat} {he : Nat} {er : Int32} {ea : Int32} {fa : Int32} {cm : Nat → Int32} {cn : Nat} {n : Nat} {mn : Nat} (smo : z_Mo h 215 th al cg sv rs ac rj ro ad bf ln lz ip ty he er ea fa cm cn n mn) {x : Int32} (hx : ∃ m : Nat, m < 10000 ∧ x = nI m) (hlz : lz + sb_dg x.toNatClampNeg ≤ 160) (hd : 5 ≤ d) : q_Spec g mX11_writesNumber d 0 0 [.ref 215, .int x] h (q_chg (.inl none) (fun h1 => z_Mo h1 215 th al cg sv rs ac rj ro ad bf (x_wr ln lz x.toNatClampNeg) (lz + sb_dg x.toNatClampNeg) ip ty he er ea fa cm cn n mn ∧ q_same h h1 215 8)) := by
  obtain ⟨m, hm, rfl⟩ := hx
  rw [nI_clamp (by omega)] at hlz ⊢
  exact e_wn 4 smo m (by decide) hm hm hlz hd
def x_mo_writesBehind (ln : Nat → Int32) (lz : Nat) (xc : Int32) (xs : Int32) : (Nat → Int32) × (Nat) := (x_wr (upd ln lz (z_c16 xc)) (lz + 1) ((xs).toNatClampNeg), lz + 1 + sb_dg ((xs).toNatClampNeg))
set_option maxRecDepth 100000 in
set_option maxHeartbeats 8000000 in
theorem e_mo_writesBehind {g : q_G} {h : q_H} {d : Nat} {th : Int32} {al : Nat → Int32} {cg : Nat} {sv : Bool} {rs : Int32} {ac : Int32} {rj : Int32} {ro : Nat → Int32} {ad : Nat → Int32} {bf : Nat → Int32} {ln : Nat → Int32} {lz : Nat} {ip : Nat → Int32} {ty : Nat} {he : Nat} {er : Int32} {ea : Int32} {fa : Int32} {cm : Nat → Int32} {cn : Nat} {n : Nat} {mn : Nat} (smo : z_Mo h 215 th al cg sv rs ac rj ro ad bf ln lz ip ty he er ea fa cm cn n mn)  (xc : Int32) (xs : Int32) (hnx : ∃ m : Nat, m < 10000 ∧ xs = nI m) (hlz : lz + 5 ≤ 160)  (hd : 6 ≤ d) : q_Spec g mX11_writesBehind d 0 0 [.ref (215), .int (xc), .int (xs)] h (q_chg (.inl none) (fun h1 => z_Mo h1 215 th al cg sv rs ac rj ro ad bf ((x_mo_writesBehind ln lz xc xs).1) ((x_mo_writesBehind ln lz xc xs).2) ip ty he er ea fa cm cn n mn ∧ q_same h h1 215 8)) := by
  have hb_mo_cg := smo.bcg
  have hb_mo_lz := smo.blz
  have hb_mo_ty := smo.bty
  have hb_mo_he := smo.bhe
  have hb_mo_cn := smo.bcn
  have hb_mo_n := smo.bn
  have hb_mo_mn := smo.bmn
  have ho_mo_cg := smo.bcg
  have ho_mo_lz := smo.blz
  have ho_mo_ty := smo.bty
  have ho_mo_he := smo.bhe
  have ho_mo_cn := smo.bcn
  have ho_mo_n := smo.bn
  have ho_mo_mn := smo.bmn
  have p0 : q_same h h 215 8 := q_same.rfl'
  refine q_enter (by decide +kernel) rfl rfl (Nat.le_of_ble_eq_true rfl) (fun hz => ?_)
  change q_W _ _ _ _ _ _ _ _ _ [.ref (215), .int (xc), .int (xs)] [] _
  refine q_aload_n (by first | assumption | omega | decide | (rw [q_R0e]; omega)) dX11_writesBehind_0 rfl ?_
  refine q_iload_n dX11_writesBehind_1 rfl ?_
  refine q_invV (mc' := 0) (ms' := 0) (d' := d - 1) (as := [.int (xc)]) dX11_writesBehind_2 kM_X11_writes kL_X11_226 kI_X11_writes kS_X11_writes rfl (kC_X11.1) smo.c0 rfl rfl (Nat.le_of_ble_eq_true rfl) (by omega) (by decide) (by omega) (by omega) (e_writes (d := d - 1) smo xc (by omega) (by omega)) (q_kC (fun h1 hB => ?_)) q_xC
  obtain ⟨t1_0, pp1⟩ := hB
  have smo1 : z_Mo h1 215 th al cg sv rs ac rj ro ad bf (upd ln lz (z_c16 xc)) (lz + 1) ip ty he er ea fa cm cn n mn := t1_0
  have p1 := p0.trans (pp1.wide (by omega) (by omega))
  have hb_mo_cg := smo1.bcg
  have hb_mo_lz := smo1.blz
  have hb_mo_ty := smo1.bty
  have hb_mo_he := smo1.bhe
  have hb_mo_cn := smo1.bcn
  have hb_mo_n := smo1.bn
  have hb_mo_mn := smo1.bmn
  change q_W _ _ _ _ _ _ _ _ 5 [.ref (215), .int (xc), .int (xs)] [] _
  refine q_aload_n (by first | assumption | omega | decide | (rw [q_R0e]; omega)) dX11_writesBehind_5 rfl ?_
  refine q_iload_n dX11_writesBehind_6 rfl ?_
  have g2 := z_dg4 (x := xs) hnx
  refine q_invV (mc' := 0) (ms' := 0) (d' := d - 1) (as := [.int (xs)]) dX11_writesBehind_7 kM_X11_writesNumber kL_X11_223 kI_X11_writesNumber kS_X11_writesNumber rfl (kC_X11.1) smo1.c0 rfl rfl (Nat.le_of_ble_eq_true rfl) (by omega) (by decide) (by omega) (by omega) (e_wnI (d := d - 1) smo1 hnx (by omega) (by omega)) (q_kC (fun h3 hB => ?_)) q_xC
  obtain ⟨t3_0, pp3⟩ := hB
  have smo3 : z_Mo h3 215 th al cg sv rs ac rj ro ad bf (x_wr (upd ln lz (z_c16 xc)) (lz + 1) ((xs).toNatClampNeg)) (lz + 1 + sb_dg ((xs).toNatClampNeg)) ip ty he er ea fa cm cn n mn := t3_0
  have p3 := p1.trans (pp3.wide (by omega) (by omega))
  have hb_mo_cg := smo3.bcg
  have hb_mo_lz := smo3.blz
  have hb_mo_ty := smo3.bty
  have hb_mo_he := smo3.bhe
  have hb_mo_cn := smo3.bcn
  have hb_mo_n := smo3.bn
  have hb_mo_mn := smo3.bmn
  change q_W _ _ _ _ _ _ _ _ 10 [.ref (215), .int (xc), .int (xs)] [] _
  have hE : x_mo_writesBehind ln lz xc xs = (x_wr (upd ln lz (z_c16 xc)) (lz + 1) ((xs).toNatClampNeg), lz + 1 + sb_dg ((xs).toNatClampNeg)) := by simp only [x_mo_writesBehind]
  rw [hE]
  exact q_return dX11_writesBehind_10 rfl (by omega) (by omega) ⟨rfl, smo3, p3⟩