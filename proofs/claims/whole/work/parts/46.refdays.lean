def x_mo_canOpponentWin (al : Nat → Int32) (ro : Nat → Int32) (n : Nat) (xid : Int32) : (Bool) × (Int32) × (Int32) × (Int32) × (Nat → Int32) := (match x_mo_isAcceptedByGame al ro n xid with | (v1, y1_th, y1_ac, y1_rj, y1_ro) => (if (y1_th) = (0) then (if v1 then (false, y1_th, y1_ac, y1_rj, y1_ro) else (true, y1_th, y1_ac, y1_rj, y1_ro)) else (false, y1_th, y1_ac, y1_rj, y1_ro)))
set_option maxRecDepth 100000 in
set_option maxHeartbeats 8000000 in
theorem e_mo_canOpponentWin {g : q_G} {h : q_H} {d : Nat} {th : Int32} {al : Nat → Int32} {cg : Nat} {sv : Bool} {rs : Int32} {ac : Int32} {rj : Int32} {ro : Nat → Int32} {ad : Nat → Int32} {bf : Nat → Int32} {ln : Nat → Int32} {lz : Nat} {ip : Nat → Int32} {ty : Nat} {he : Nat} {er : Int32} {ea : Int32} {fa : Int32} {cm : Nat → Int32} {cn : Nat} {n : Nat} {mn : Nat} (smo : z_Mo h 215 th al cg sv rs ac rj ro ad bf ln lz ip ty he er ea fa cm cn n mn)  (xid : Int32)   (hd : 8 ≤ d) : q_Spec g mX11_canOpponentWin d 0 0 [.ref (215), .int (xid)] h (q_chg (.inl (some (.int (z_b (x_mo_canOpponentWin al ro n xid).1)))) (fun h1 => z_Mo h1 215 ((x_mo_canOpponentWin al ro n xid).2.1) al cg sv rs ((x_mo_canOpponentWin al ro n xid).2.2.1) ((x_mo_canOpponentWin al ro n xid).2.2.2.1) ((x_mo_canOpponentWin al ro n xid).2.2.2.2) ad bf ln lz ip ty he er ea fa cm cn n mn ∧ q_same h h1 215 8)) := by
  have hb_mo_cg := smo.bcg
  have hb_mo_lz := smo.blz
  have hb_mo_ty := smo.bty
  have hb_mo_he := smo.bhe
  have hb_mo_cn := smo.bcn
  have hb_mo_n := smo.bn
  have hb_mo_mn := smo.bmn
  have ho_mo_cg := smo.bcg
  have ho_mo_lz := smo.blz
  have ho_mo_ty := smo.bty
  have ho_mo_he := smo.bhe
  have ho_mo_cn := smo.bcn
  have ho_mo_n := smo.bn
  have ho_mo_mn := smo.bmn
  have p0 : q_same h h 215 8 := q_same.rfl'
  refine q_enter (by decide +kernel) rfl rfl (Nat.le_of_ble_eq_true rfl) (fun hz => ?_)
  change q_W _ _ _ _ _ _ _ _ _ [.ref (215), .int (xid), q_u] [] _
  refine q_aload_n (by first | assumption | omega | decide | (rw [q_R0e]; omega)) dX11_canOpponentWin_0 rfl ?_
  refine q_iload_n dX11_canOpponentWin_1 rfl ?_
  rcases x1 : x_mo_isAcceptedByGame al ro n xid with ⟨v1, y1_th, y1_ac, y1_rj, y1_ro⟩
  have e9 := e_mo_isAcceptedByGame (g := g) (h := h) (d := d - 1) smo xid (by omega)
  rw [x1] at e9
  refine q_invV (mc' := 0) (ms' := 0) (d' := d - 1) (as := [.int (xid)]) dX11_canOpponentWin_2 kM_X11_isAcceptedByGame kL_X11_201 kI_X11_isAcceptedByGame kS_X11_isAcceptedByGame rfl (kC_X11.1) smo.c0 rfl rfl (Nat.le_of_ble_eq_true rfl) (by omega) (by decide) (by omega) (by omega) (e9) (q_kC (fun h2 hB => ?_)) q_xC
  obtain ⟨t2_0, pp2⟩ := hB
  have smo2 := t2_0
  have p2 := p0.trans (pp2.wide (by omega) (by omega))
  have hb_mo_cg := smo2.bcg
  have hb_mo_lz := smo2.blz
  have hb_mo_ty := smo2.bty
  have hb_mo_he := smo2.bhe
  have hb_mo_cn := smo2.bcn
  have hb_mo_n := smo2.bn
  have hb_mo_mn := smo2.bmn
  change q_W _ _ _ _ _ _ _ _ 5 [.ref (215), .int (xid), q_u] [.int (z_b (v1))] _
  refine q_istore_n dX11_canOpponentWin_5 (by decide) rfl ?_
  change q_W _ _ _ _ _ _ _ _ _ [.ref (215), .int (xid), .int (z_b (v1))] [] _
  refine q_aload_n (by first | assumption | omega | decide | (rw [q_R0e]; omega)) dX11_canOpponentWin_6 rfl ?_
  refine q_getf (k := 0) (v := .int (y1_th)) kC_X11 kL_X11_40 rfl (by decide) dX11_canOpponentWin_7 smo2.c0 rfl ?_
  refine q_if_ne 21 dX11_canOpponentWin_10 (by decide) (fun b10 => ?_) (fun b10 => ?_)
  · refine q_iconst (v := 0) dX11_canOpponentWin_21 rfl ?_
    have hE : x_mo_canOpponentWin al ro n xid = (false, y1_th, y1_ac, y1_rj, y1_ro) := by simp only [x_mo_canOpponentWin, x1, if_neg b10]
    rw [hE]
    exact q_ireturn dX11_canOpponentWin_22 rfl rfl (by omega) (by omega) ⟨rfl, smo2, p2⟩
  · refine q_iload_n dX11_canOpponentWin_13 rfl ?_
    refine q_if_ne 21 dX11_canOpponentWin_14 (by decide) (fun b14 => ?_) (fun b14 => ?_)
    · have b14 := z_b1 b14
      refine q_iconst (v := 0) dX11_canOpponentWin_21 rfl ?_
      have hE : x_mo_canOpponentWin al ro n xid = (false, y1_th, y1_ac, y1_rj, y1_ro) := by simp only [x_mo_canOpponentWin, x1, if_pos b10, if_pos b14]
      rw [hE]
      exact q_ireturn dX11_canOpponentWin_22 rfl rfl (by omega) (by omega) ⟨rfl, smo2, p2⟩
    · have b14 := z_b0n b14
      refine q_iconst (v := 1) dX11_canOpponentWin_17 rfl ?_
      refine q_goto 22 dX11_canOpponentWin_18 (by decide) ?_
      have hE : x_mo_canOpponentWin al ro n xid = (true, y1_th, y1_ac, y1_rj, y1_ro) := by simp only [x_mo_canOpponentWin, x1, if_pos b10, if_neg b14]
      rw [hE]
      exact q_ireturn dX11_canOpponentWin_22 rfl rfl (by omega) (by omega) ⟨rfl, smo2, p2⟩
theorem z_pw01 {al ad : Nat → Int32} {n : Nat} {xs : Int32} (h : z_01 ad) : z_01 (x_mo_preferredWith al ad n xs).2 := z_fa01 h
def x_mo_isCertain (al : Nat → Int32) (ad : Nat → Int32) (n : Nat) (xid : Int32) : (Bool) × (Int32) × (Nat → Int32) := (if x_th n al xid then (match x_mo_preferredWith al ad n ((1 : Int32) <<< ((nI (x_pl n al xid - 1)) &&& 31)) with | (v3, y3_ad) => (match x_mo_preferredWith al y3_ad n 0 with | (v5, y5_ad) => (if (v3) = (v5) then (true, (if x_th n al xid then 0 else 1), y5_ad) else (false, (if x_th n al xid then 0 else 1), y5_ad)))) else (false, (if x_th n al xid then 0 else 1), ad))
set_option maxRecDepth 100000 in
set_option maxHeartbeats 8000000 in
theorem e_mo_isCertain {g : q_G} {h : q_H} {d : Nat} {th : Int32} {al : Nat → Int32} {cg : Nat} {sv : Bool} {rs : Int32} {ac : Int32} {rj : Int32} {ro : Nat → Int32} {ad : Nat → Int32} {bf : Nat → Int32} {ln : Nat → Int32} {lz : Nat} {ip : Nat → Int32} {ty : Nat} {he : Nat} {er : Int32} {ea : Int32} {fa : Int32} {cm : Nat → Int32} {cn : Nat} {n : Nat} {mn : Nat} (smo : z_Mo h 215 th al cg sv rs ac rj ro ad bf ln lz ip ty he er ea fa cm cn n mn)  (xid : Int32) (had : z_01 ad)  (hd : 9 ≤ d) : q_Spec g mX11_isCertain d 0 0 [.ref (215), .int (xid)] h (q_chg (.inl (some (.int (z_b (x_mo_isCertain al ad n xid).1)))) (fun h1 => z_Mo h1 215 ((x_mo_isCertain al ad n xid).2.1) al cg sv rs ac rj ro ((x_mo_isCertain al ad n xid).2.2) bf ln lz ip ty he er ea fa cm cn n mn ∧ q_same h h1 215 8)) := by
  have hb_mo_cg := smo.bcg
  have hb_mo_lz := smo.blz
  have hb_mo_ty := smo.bty
  have hb_mo_he := smo.bhe
  have hb_mo_cn := smo.bcn
  have hb_mo_n := smo.bn
  have hb_mo_mn := smo.bmn
  have ho_mo_cg := smo.bcg
  have ho_mo_lz := smo.blz
  have ho_mo_ty := smo.bty
  have ho_mo_he := smo.bhe
  have ho_mo_cn := smo.bcn
  have ho_mo_n := smo.bn
  have ho_mo_mn := smo.bmn
  have p0 : q_same h h 215 8 := q_same.rfl'
  refine q_enter (by decide +kernel) rfl rfl (Nat.le_of_ble_eq_true rfl) (fun hz => ?_)
  change q_W _ _ _ _ _ _ _ _ _ [.ref (215), .int (xid)] [] _
  refine q_aload_n (by first | assumption | omega | decide | (rw [q_R0e]; omega)) dX11_isCertain_0 rfl ?_
  refine q_aload_n (by first | assumption | omega | decide | (rw [q_R0e]; omega)) dX11_isCertain_1 rfl ?_
  refine q_iload_n dX11_isCertain_2 rfl ?_
  refine q_invV (mc' := 0) (ms' := 0) (d' := d - 1) (as := [.int (xid)]) dX11_isCertain_3 kM_X11_isThere kL_X11_141 kI_X11_isThere kS_X11_isThere rfl (kC_X11.1) smo.c0 rfl rfl (Nat.le_of_ble_eq_true rfl) (by omega) (by decide) (by omega) (by omega) (e_isThere (d := d - 1) smo xid (by omega)) (q_kR ?_) q_xR
  change q_W _ _ _ _ _ _ _ _ 6 [.ref (215), .int (xid)] [.int (z_b (x_th n al xid)), .ref (215)] _
  refine q_invV (mc' := 0) (ms' := 0) (d' := d - 1) (as := [.int (z_b (x_th n al xid))]) dX11_isCertain_6 kM_X11_isFine kL_X11_181 kI_X11_isFine kS_X11_isFine rfl (kC_X11.1) smo.c0 rfl rfl (Nat.le_of_ble_eq_true rfl) (by omega) (by decide) (by omega) (by omega) (e_isFine (d := d - 1) smo (xb := (x_th n al xid)) (by omega)) (q_kC (fun h1 hB => ?_)) q_xC
  obtain ⟨t1_0, pp1⟩ := hB
  have smo1 : z_Mo h1 215 (if x_th n al xid then 0 else 1) al cg sv rs ac rj ro ad bf ln lz ip ty he er ea fa cm cn n mn := t1_0
  have p1 := p0.trans (pp1.wide (by omega) (by omega))
  have hb_mo_cg := smo1.bcg
  have hb_mo_lz := smo1.blz
  have hb_mo_ty := smo1.bty
  have hb_mo_he := smo1.bhe
  have hb_mo_cn := smo1.bcn
  have hb_mo_n := smo1.bn
  have hb_mo_mn := smo1.bmn
  change q_W _ _ _ _ _ _ _ _ 9 [.ref (215), .int (xid)] [.int (z_b (x_th n al xid))] _
  refine q_if_eq 35 dX11_isCertain_9 (by decide) (fun b9 => ?_) (fun b9 => ?_)
  · have b9 := z_b0n b9
    have fb9 : x_pl n al xid = 0 := z_nth b9
    refine q_iconst (v := 0) dX11_isCertain_35 rfl ?_
    have hE : x_mo_isCertain al ad n xid = (false, (if x_th n al xid then 0 else 1), ad) := by simp only [x_mo_isCertain, if_neg b9]
    rw [hE]
    exact q_ireturn dX11_isCertain_36 rfl rfl (by omega) (by omega) ⟨rfl, smo1, p1⟩
  · have b9 := z_b1 b9
    have fb9 : 0 < x_pl n al xid := z_th b9
    refine q_aload_n (by first | assumption | omega | decide | (rw [q_R0e]; omega)) dX11_isCertain_12 rfl ?_
    refine q_iconst (v := 1) dX11_isCertain_13 rfl ?_
    refine q_aload_n (by first | assumption | omega | decide | (rw [q_R0e]; omega)) dX11_isCertain_14 rfl ?_
    refine q_iload_n dX11_isCertain_15 rfl ?_
    have g2 : x_pl n al xid ≤ n := x_pl_le
    refine q_invV (mc' := 0) (ms' := 0) (d' := d - 1) (as := [.int (xid)]) dX11_isCertain_16 kM_X11_place kL_X11_57 kI_X11_place kS_X11_place rfl (kC_X11.1) smo1.c0 rfl rfl (Nat.le_of_ble_eq_true rfl) (by omega) (by decide) (by omega) (by omega) (e_placeP (d := d - 1) smo1 xid (by omega) (by omega)) (q_kR ?_) q_xR
    change q_W _ _ _ _ _ _ _ _ 19 [.ref (215), .int (xid)] [.int (nI (x_pl n al xid - 1)), .int (1), .ref (215)] _
    refine q_ishl dX11_isCertain_19 ?_
    rcases x3 : x_mo_preferredWith al ad n ((1 : Int32) <<< ((nI (x_pl n al xid - 1)) &&& 31)) with ⟨v3, y3_ad⟩
    have e9 := e_mo_preferredWith (g := g) (h := h1) (d := d - 1) smo1 ((1 : Int32) <<< ((nI (x_pl n al xid - 1)) &&& 31)) (by assumption) (by omega)
    rw [x3] at e9
    refine q_invV (mc' := 0) (ms' := 0) (d' := d - 1) (as := [.int ((1 : Int32) <<< ((nI (x_pl n al xid - 1)) &&& 31))]) dX11_isCertain_20 kM_X11_preferredWith kL_X11_207 kI_X11_preferredWith kS_X11_preferredWith rfl (kC_X11.1) smo1.c0 rfl rfl (Nat.le_of_ble_eq_true rfl) (by omega) (by decide) (by omega) (by omega) (e9) (q_kC (fun h4 hB => ?_)) q_xC
    obtain ⟨t4_0, pp4⟩ := hB
    have smo4 := t4_0
    have p4 := p1.trans (pp4.wide (by omega) (by omega))
    have hb_mo_cg := smo4.bcg
    have hb_mo_lz := smo4.blz
    have hb_mo_ty := smo4.bty
    have hb_mo_he := smo4.bhe
    have hb_mo_cn := smo4.bcn
    have hb_mo_n := smo4.bn
    have hb_mo_mn := smo4.bmn
    have had3 : z_01 y3_ad := by have q9 := z_pw01 (al := al) (n := n) (xs := (1 : Int32) <<< ((nI (x_pl n al xid - 1)) &&& 31)) (by assumption); rw [x3] at q9; exact q9
    change q_W _ _ _ _ _ _ _ _ 23 [.ref (215), .int (xid)] [.int (v3)] _
    refine q_aload_n (by first | assumption | omega | decide | (rw [q_R0e]; omega)) dX11_isCertain_23 rfl ?_
    refine q_iconst (v := 0) dX11_isCertain_24 rfl ?_
    rcases x5 : x_mo_preferredWith al y3_ad n 0 with ⟨v5, y5_ad⟩
    have e9 := e_mo_preferredWith (g := g) (h := h4) (d := d - 1) smo4 0 (by assumption) (by omega)
    rw [x5] at e9
    refine q_invV (mc' := 0) (ms' := 0) (d' := d - 1) (as := [.int (0)]) dX11_isCertain_25 kM_X11_preferredWith kL_X11_207 kI_X11_preferredWith kS_X11_preferredWith rfl (kC_X11.1) smo4.c0 rfl rfl (Nat.le_of_ble_eq_true rfl) (by omega) (by decide) (by omega) (by omega) (e9) (q_kC (fun h6 hB => ?_)) q_xC
    obtain ⟨t6_0, pp6⟩ := hB
    have smo6 := t6_0
    have p6 := p4.trans (pp6.wide (by omega) (by omega))
    have hb_mo_cg := smo6.bcg
    have hb_mo_lz := smo6.blz
    have hb_mo_ty := smo6.bty
    have hb_mo_he := smo6.bhe
    have hb_mo_cn := smo6.bcn
    have hb_mo_n := smo6.bn
    have hb_mo_mn := smo6.bmn
    have had5 : z_01 y5_ad := by have q9 := z_pw01 (al := al) (n := n) (xs := 0) (by assumption); rw [x5] at q9; exact q9
    change q_W _ _ _ _ _ _ _ _ 28 [.ref (215), .int (xid)] [.int (v5), .int (v3)] _
    refine q_icmp_ne 35 dX11_isCertain_28 (by decide) (fun b28 => ?_) (fun b28 => ?_)
    · refine q_iconst (v := 0) dX11_isCertain_35 rfl ?_
      have hE : x_mo_isCertain al ad n xid = (false, (if x_th n al xid then 0 else 1), y5_ad) := by simp only [x_mo_isCertain, if_pos b9, x3, x5, if_neg b28]
      rw [hE]
      exact q_ireturn dX11_isCertain_36 rfl rfl (by omega) (by omega) ⟨rfl, smo6, p6⟩
    · refine q_iconst (v := 1) dX11_isCertain_31 rfl ?_
      refine q_goto 36 dX11_isCertain_32 (by decide) ?_
      have hE : x_mo_isCertain al ad n xid = (true, (if x_th n al xid then 0 else 1), y5_ad) := by simp only [x_mo_isCertain, if_pos b9, x3, x5, if_pos b28]
      rw [hE]
      exact q_ireturn dX11_isCertain_36 rfl rfl (by omega) (by omega) ⟨rfl, smo6, p6⟩
theorem z_ages_2_out {al0 : Nat → Int32} {xd : Int32} {i : Nat} (hi : 51 ≤ i) : ∀ (r k : Nat) (al : Nat → Int32), k + r ≤ 8 → x_mo_ages_2 xd r k al i = al i := by
  intro r
  induction r with
  | zero => intro k al _; rfl
  | succ r ih =>
    intro k al hk
    simp only [x_mo_ages_2]
    split
    all_goals (rw [ih _ _ (by omega), upd_ne (by omega)])
theorem z_ages_out {al : Nat → Int32} {n : Nat} {xd : Int32} {i : Nat} (hi : 51 ≤ i) (hn : n ≤ 8) : x_mo_ages al n xd i = al i := by
  unfold x_mo_ages
  rw [upd_ne (by omega), z_ages_2_out (al0 := al) hi _ _ _ (by omega)]
theorem e_cpO0 {g : q_G} {h : q_H} {d : Nat} {th : Int32} {al : Nat → Int32} {cg : Nat} {sv : Bool} {rs : Int32} {ac : Int32} {rj : Int32} {ro : Nat → Int32} {ad : Nat → Int32} {bf : Nat → Int32} {ln : Nat → Int32} {lz : Nat} {ip : Nat → Int32} {ty : Nat} {he : Nat} {er : Int32} {ea : Int32} {fa : Int32} {cm : Nat → Int32} {cn : Nat} {n : Nat} {mn : Nat} (smo : z_Mo h 215 th al cg sv rs ac rj ro ad bf ln lz ip ty he er ea fa cm cn n mn) (p : Nat) (hp : p < 12) (hp0 : 0 < p) (n' mn' : Nat) (e0 : al (51 * p + 0) = nI n') (e3 : al (51 * p + 3) = nI mn') (hn : n' ≤ 8) (hm : mn' ≤ 12) (hd : 0 ≤ d) : q_Spec g mX11_copies d 0 0 [.ref 215, .int (nI p), .int 0] h (q_chg (.inl none) (fun h1 => z_Mo h1 215 th (x_cp al p 0) cg sv rs ac rj ro ad bf ln lz ip ty he er ea fa cm cn n' mn' ∧ q_same h h1 215 8)) := by
  refine q_chgI (e_cp smo.raw p 0 hp (by omega) (by omega) hd) (fun h1 hB => ?_)
  exact ⟨hB.1.mo ((x_cp_in (t := 0) (k := 0) (by omega)).trans e0) hn ((x_cp_in (t := 0) (k := 3) (by omega)).trans e3) hm, hB.2⟩
def x_mo_labelsAfter (al : Nat → Int32) (ro : Nat → Int32) (n : Nat) (xd : Int32) : (Int32) × (Nat → Int32) × (Int32) × (Int32) × (Nat → Int32) := (let y2_al := x_mo_ages (x_cp al 0 11) n xd; (match x_mo_labelsAll y2_al n ro with | (y4_ac, y4_rj, y4_ro) => (y4_ac ||| (y4_rj <<< ((8 : Int32) &&& 31)), x_cp y2_al 11 0, y4_ac, y4_rj, y4_ro)))
set_option maxRecDepth 100000 in
set_option maxHeartbeats 8000000 in
theorem e_mo_labelsAfter {g : q_G} {h : q_H} {d : Nat} {th : Int32} {al : Nat → Int32} {cg : Nat} {sv : Bool} {rs : Int32} {ac : Int32} {rj : Int32} {ro : Nat → Int32} {ad : Nat → Int32} {bf : Nat → Int32} {ln : Nat → Int32} {lz : Nat} {ip : Nat → Int32} {ty : Nat} {he : Nat} {er : Int32} {ea : Int32} {fa : Int32} {cm : Nat → Int32} {cn : Nat} {n : Nat} {mn : Nat} (smo : z_Mo h 215 th al cg sv rs ac rj ro ad bf ln lz ip ty he er ea fa cm cn n mn)  (xd : Int32)   (hd : 6 ≤ d) : q_Spec g mX11_labelsAfter d 0 0 [.ref (215), .int (xd)] h (q_chg (.inl (some (.int (x_mo_labelsAfter al ro n xd).1))) (fun h1 => z_Mo h1 215 th ((x_mo_labelsAfter al ro n xd).2.1) cg sv rs ((x_mo_labelsAfter al ro n xd).2.2.1) ((x_mo_labelsAfter al ro n xd).2.2.2.1) ((x_mo_labelsAfter al ro n xd).2.2.2.2) ad bf ln lz ip ty he er ea fa cm cn n mn ∧ q_same h h1 215 8)) := by
  have hb_mo_cg := smo.bcg
  have hb_mo_lz := smo.blz
  have hb_mo_ty := smo.bty
  have hb_mo_he := smo.bhe
  have hb_mo_cn := smo.bcn
  have hb_mo_n := smo.bn
  have hb_mo_mn := smo.bmn
  have ho_mo_cg := smo.bcg
  have ho_mo_lz := smo.blz
  have ho_mo_ty := smo.bty
  have ho_mo_he := smo.bhe
  have ho_mo_cn := smo.bcn
  have ho_mo_n := smo.bn
  have ho_mo_mn := smo.bmn
  have p0 : q_same h h 215 8 := q_same.rfl'
  refine q_enter (by decide +kernel) rfl rfl (Nat.le_of_ble_eq_true rfl) (fun hz => ?_)
  change q_W _ _ _ _ _ _ _ _ _ [.ref (215), .int (xd)] [] _
  refine q_aload_n (by first | assumption | omega | decide | (rw [q_R0e]; omega)) dX11_labelsAfter_0 rfl ?_
  refine q_iconst (v := 0) dX11_labelsAfter_1 rfl ?_
  refine q_bipush (v := 11) dX11_labelsAfter_2 rfl ?_
  refine q_invV (mc' := 0) (ms' := 0) (d' := d - 1) (as := [.int (0), .int (11)]) dX11_labelsAfter_4 kM_X11_copies kL_X11_43 kI_X11_copies kS_X11_copies rfl (kC_X11.1) smo.c0 rfl rfl (Nat.le_of_ble_eq_true rfl) (by omega) (by decide) (by omega) (by omega) (e_cpO (d := d - 1) smo 0 11 (by omega) (by omega) (by omega) (by omega) (by omega)) (q_kC (fun h1 hB => ?_)) q_xC
  obtain ⟨t1_0, pp1⟩ := hB
  have smo1 : z_Mo h1 215 th (x_cp al 0 11) cg sv rs ac rj ro ad bf ln lz ip ty he er ea fa cm cn n mn := t1_0
  have p1 := p0.trans (pp1.wide (by omega) (by omega))
  have hb_mo_cg := smo1.bcg
  have hb_mo_lz := smo1.blz
  have hb_mo_ty := smo1.bty
  have hb_mo_he := smo1.bhe
  have hb_mo_cn := smo1.bcn
  have hb_mo_n := smo1.bn
  have hb_mo_mn := smo1.bmn
  change q_W _ _ _ _ _ _ _ _ 7 [.ref (215), .int (xd)] [] _
  refine q_aload_n (by first | assumption | omega | decide | (rw [q_R0e]; omega)) dX11_labelsAfter_7 rfl ?_
  refine q_iload_n dX11_labelsAfter_8 rfl ?_
  obtain ⟨y2_al, x2⟩ : ∃ z, x_mo_ages (x_cp al 0 11) n xd = z := ⟨_, rfl⟩
  have e9 := e_mo_ages (g := g) (h := h1) (d := d - 1) smo1 xd (by omega)
  rw [x2] at e9
  refine q_invV (mc' := 0) (ms' := 0) (d' := d - 1) (as := [.int (xd)]) dX11_labelsAfter_9 kM_X11_ages kL_X11_171 kI_X11_ages kS_X11_ages rfl (kC_X11.1) smo1.c0 rfl rfl (Nat.le_of_ble_eq_true rfl) (by omega) (by decide) (by omega) (by omega) (e9) (q_kC (fun h3 hB => ?_)) q_xC
  obtain ⟨t3_0, pp3⟩ := hB
  have smo3 := t3_0
  have p3 := p1.trans (pp3.wide (by omega) (by omega))
  have hb_mo_cg := smo3.bcg
  have hb_mo_lz := smo3.blz
  have hb_mo_ty := smo3.bty
  have hb_mo_he := smo3.bhe
  have hb_mo_cn := smo3.bcn
  have hb_mo_n := smo3.bn
  have hb_mo_mn := smo3.bmn
  change q_W _ _ _ _ _ _ _ _ 12 [.ref (215), .int (xd)] [] _
  refine q_aload_n (by first | assumption | omega | decide | (rw [q_R0e]; omega)) dX11_labelsAfter_12 rfl ?_
  rcases x4 : x_mo_labelsAll y2_al n ro with ⟨y4_ac, y4_rj, y4_ro⟩
  have e9 := e_mo_labelsAll (g := g) (h := h3) (d := d - 1) smo3 (by omega)
  rw [x4] at e9
  refine q_invV (mc' := 0) (ms' := 0) (d' := d - 1) (as := []) dX11_labelsAfter_13 kM_X11_labelsAll kL_X11_191 kI_X11_labelsAll kS_X11_labelsAll rfl (kC_X11.1) smo3.c0 rfl rfl (Nat.le_of_ble_eq_true rfl) (by omega) (by decide) (by omega) (by omega) (e9) (q_kC (fun h5 hB => ?_)) q_xC
  obtain ⟨t5_0, pp5⟩ := hB
  have smo5 := t5_0
  have p5 := p3.trans (pp5.wide (by omega) (by omega))
  have hb_mo_cg := smo5.bcg
  have hb_mo_lz := smo5.blz
  have hb_mo_ty := smo5.bty
  have hb_mo_he := smo5.bhe
  have hb_mo_cn := smo5.bcn
  have hb_mo_n := smo5.bn
  have hb_mo_mn := smo5.bmn
  change q_W _ _ _ _ _ _ _ _ 16 [.ref (215), .int (xd)] [] _
  refine q_aload_n (by first | assumption | omega | decide | (rw [q_R0e]; omega)) dX11_labelsAfter_16 rfl ?_
  refine q_bipush (v := 11) dX11_labelsAfter_17 rfl ?_
  refine q_iconst (v := 0) dX11_labelsAfter_19 rfl ?_
  refine q_invV (mc' := 0) (ms' := 0) (d' := d - 1) (as := [.int (11), .int (0)]) dX11_labelsAfter_20 kM_X11_copies kL_X11_43 kI_X11_copies kS_X11_copies rfl (kC_X11.1) smo5.c0 rfl rfl (Nat.le_of_ble_eq_true rfl) (by omega) (by decide) (by omega) (by omega) (e_cpO0 (d := d - 1) smo5 11 (by omega) (by omega) n mn (by rw [← x2, z_ages_out (by omega) (by omega), x_cp_in (t := 11) (k := 0) (by omega)]; exact smo.en) (by rw [← x2, z_ages_out (by omega) (by omega), x_cp_in (t := 11) (k := 3) (by omega)]; exact smo.emn) (by omega) (by omega) (by omega)) (q_kC (fun h6 hB => ?_)) q_xC
  obtain ⟨t6_0, pp6⟩ := hB
  have smo6 : z_Mo h6 215 th (x_cp y2_al 11 0) cg sv rs y4_ac y4_rj y4_ro ad bf ln lz ip ty he er ea fa cm cn n mn := t6_0
  have p6 := p5.trans (pp6.wide (by omega) (by omega))
  have hb_mo_cg := smo6.bcg
  have hb_mo_lz := smo6.blz
  have hb_mo_ty := smo6.bty
  have hb_mo_he := smo6.bhe
  have hb_mo_cn := smo6.bcn
  have hb_mo_n := smo6.bn
  have hb_mo_mn := smo6.bmn
  change q_W _ _ _ _ _ _ _ _ 23 [.ref (215), .int (xd)] [] _
  refine q_aload_n (by first | assumption | omega | decide | (rw [q_R0e]; omega)) dX11_labelsAfter_23 rfl ?_
  refine q_getf (k := 5) (v := .int (y4_ac)) kC_X11 kL_X11_74 rfl (by decide) dX11_labelsAfter_24 smo6.c0 rfl ?_
  refine q_aload_n (by first | assumption | omega | decide | (rw [q_R0e]; omega)) dX11_labelsAfter_27 rfl ?_
  refine q_getf (k := 6) (v := .int (y4_rj)) kC_X11 kL_X11_77 rfl (by decide) dX11_labelsAfter_28 smo6.c0 rfl ?_
  refine q_bipush (v := 8) dX11_labelsAfter_31 rfl ?_
  refine q_ishl dX11_labelsAfter_33 ?_
  refine q_ior dX11_labelsAfter_34 ?_
  have hE : x_mo_labelsAfter al ro n xd = (y4_ac ||| (y4_rj <<< ((8 : Int32) &&& 31)), x_cp y2_al 11 0, y4_ac, y4_rj, y4_ro) := by simp only [x_mo_labelsAfter, x2, x4]
  rw [hE]
  exact q_ireturn dX11_labelsAfter_35 rfl rfl (by omega) (by omega) ⟨rfl, smo6, p6⟩
theorem z_la_row {al ro : Nat → Int32} {n : Nat} {xd : Int32} {i : Nat} (hi : i < 51) (hn : n ≤ 8) : (x_mo_labelsAfter al ro n xd).2.1 i = al i := by
  unfold x_mo_labelsAfter
  dsimp only
  have e := x_cp_in (al := x_mo_ages (x_cp al 0 11) n xd) (f := 11) (t := 0) hi
  rw [Nat.mul_zero, Nat.zero_add] at e
  rw [e, z_ages_out (by omega) hn, x_cp_in (t := 11) hi, Nat.mul_zero, Nat.zero_add]
theorem x_pl_2_congr {al al' : Nat → Int32} {xid : Int32} (h : ∀ i, i < 51 → al' i = al i) : ∀ r k, k + r ≤ 8 → x_pl_2 al' xid r k = x_pl_2 al xid r k := by
  intro r
  induction r with
  | zero => intro k _; rfl
  | succ r ih =>
    intro k hk
    simp only [x_pl_2]
    rw [h _ (by omega), ih (k + 1) (by omega)]
theorem x_pl_congr {n : Nat} {al al' : Nat → Int32} {xid : Int32} (h : ∀ i, i < 51 → al' i = al i) (hn : n ≤ 8) : x_pl n al' xid = x_pl n al xid := x_pl_2_congr h n 0 (by omega)
def x_mo_daysUntilChange_8 (n : Nat) (v1 : Int32) : Nat → Nat → (Int32) → (Nat → Int32) → (Int32) → (Nat → Int32) → (Nat) × (Int32) × (Nat → Int32) × (Int32) × (Nat → Int32)
  | 0, k, ac_8, al_8, rj_8, ro_8 => (k, ac_8, al_8, rj_8, ro_8)
  | r + 1, k, ac_8, al_8, rj_8, ro_8 => (match x_mo_labelsAfter al_8 ro_8 n (nI (k)) with | (v3, y3_al, y3_ac, y3_rj, y3_ro) => (if (v3) = (v1) then x_mo_daysUntilChange_8 n v1 r (k + 1) y3_ac y3_al y3_rj y3_ro else (k, y3_ac, y3_al, y3_rj, y3_ro)))
set_option maxRecDepth 100000 in
set_option maxHeartbeats 8000000 in
theorem l_mo_daysUntilChange_8 {g : q_G} {h : q_H} {d mc ms kc ks : Nat} {Q : q_O → q_H → Prop} {th : Int32} {cg : Nat} {sv : Bool} {rs : Int32} {ad : Nat → Int32} {bf : Nat → Int32} {ln : Nat → Int32} {lz : Nat} {ip : Nat → Int32} {ty : Nat} {he : Nat} {er : Int32} {ea : Int32} {fa : Int32} {cm : Nat → Int32} {cn : Nat} {n : Nat} {mn : Nat} {v1 : Int32}   (ho_mo_cg : cg ≤ 8) (ho_mo_lz : lz ≤ 160) (ho_mo_ty : ty ≤ 60) (ho_mo_he : he ≤ 60) (ho_mo_cn : cn ≤ 61) (ho_mo_n : n ≤ 8) (ho_mo_mn : mn ≤ 12)  (hd : 7 ≤ d) (hkc : kc + 0 ≤ mc) (hks : ks + 0 ≤ ms) : ∀ (r k : Nat) (ac_8 : Int32) (al_8 : Nat → Int32) (rj_8 : Int32) (ro_8 : Nat → Int32) (hh : q_H) (smo_8 : z_Mo hh 215 th al_8 cg sv rs ac_8 rj_8 ro_8 ad bf ln lz ip ty he er ea fa cm cn n mn) (pH : q_same h hh 215 8) (hk_8 : k + r = 91) (K : ∀ (r8_0 : Nat) (r8_1 : Int32) (r8_2 : Nat → Int32) (r8_3 : Int32) (r8_4 : Nat → Int32), x_mo_daysUntilChange_8 n v1 r k ac_8 al_8 rj_8 ro_8 = (r8_0, r8_1, r8_2, r8_3, r8_4) → r8_0 ≤ 91 → ∀ h2, z_Mo h2 215 th r8_2 cg sv rs r8_1 r8_3 r8_4 ad bf ln lz ip ty he er ea fa cm cn n mn → q_same h h2 215 8 → q_W g mX11_daysUntilChange d mc ms Q kc ks 29 [.ref (215), q_u, .int (nI (r8_0))] [] h2), q_W g mX11_daysUntilChange d mc ms Q kc ks 8 [.ref (215), .int (v1), .int (nI (k))] [] hh := by
  intro r
  induction r with
  | zero =>
    intro k ac_8 al_8 rj_8 ro_8 hh smo_8 pH hk_8 K
    have hb_mo_cg := smo_8.bcg
    have hb_mo_lz := smo_8.blz
    have hb_mo_ty := smo_8.bty
    have hb_mo_he := smo_8.bhe
    have hb_mo_cn := smo_8.bcn
    have hb_mo_n := smo_8.bn
    have hb_mo_mn := smo_8.bmn
    refine q_iload_n dX11_daysUntilChange_8 rfl ?_
    refine q_bipush (v := 90) dX11_daysUntilChange_9 rfl ?_
    refine q_icmp_gt 29 dX11_daysUntilChange_11 (by decide) (fun b11 => ?_) (fun b11 => ?_)
    · have b11 := (nI_ltI (a := 90) (b := k) (by omega) (by omega)).mp b11
      refine q_forget 1 ?_
      change q_W _ _ _ _ _ _ _ _ _ [.ref (215), q_u, .int (nI (k))] [] _
      exact K k ac_8 al_8 rj_8 ro_8 (by simp only [x_mo_daysUntilChange_8]) (by omega) hh smo_8 pH
    · have b11 : ¬ (90 < k) := fun q => b11 ((nI_ltI (a := 90) (b := k) (by omega) (by omega)).mpr q)
      exact absurd b11 (by omega)
  | succ r ih =>
    intro k ac_8 al_8 rj_8 ro_8 hh smo_8 pH hk_8 K
    have hb_mo_cg := smo_8.bcg
    have hb_mo_lz := smo_8.blz
    have hb_mo_ty := smo_8.bty
    have hb_mo_he := smo_8.bhe
    have hb_mo_cn := smo_8.bcn
    have hb_mo_n := smo_8.bn
    have hb_mo_mn := smo_8.bmn
    refine q_iload_n dX11_daysUntilChange_8 rfl ?_
    refine q_bipush (v := 90) dX11_daysUntilChange_9 rfl ?_
    refine q_icmp_gt 29 dX11_daysUntilChange_11 (by decide) (fun b11 => ?_) (fun b11 => ?_)
    · have b11 := (nI_ltI (a := 90) (b := k) (by omega) (by omega)).mp b11
      exact absurd b11 (by omega)
    · have b11 : ¬ (90 < k) := fun q => b11 ((nI_ltI (a := 90) (b := k) (by omega) (by omega)).mpr q)
      refine q_aload_n (by first | assumption | omega | decide | (rw [q_R0e]; omega)) dX11_daysUntilChange_14 rfl ?_
      refine q_iload_n dX11_daysUntilChange_15 rfl ?_
      rcases x3 : x_mo_labelsAfter al_8 ro_8 n (nI (k)) with ⟨v3, y3_al, y3_ac, y3_rj, y3_ro⟩
      have e9 := e_mo_labelsAfter (g := g) (h := hh) (d := d - 1) smo_8 (nI (k)) (by omega)
      rw [x3] at e9
      refine q_invV (mc' := 0) (ms' := 0) (d' := d - 1) (as := [.int (nI (k))]) dX11_daysUntilChange_16 kM_X11_labelsAfter kL_X11_214 kI_X11_labelsAfter kS_X11_labelsAfter rfl (kC_X11.1) smo_8.c0 rfl rfl (Nat.le_of_ble_eq_true rfl) (by omega) (by decide) (by omega) (by omega) (e9) (q_kC (fun h4 hB => ?_)) q_xC
      obtain ⟨t4_0, pp4⟩ := hB
      have smo4 := t4_0
      have p4 := pH.trans (pp4.wide (by omega) (by omega))
      have hb_mo_cg := smo4.bcg
      have hb_mo_lz := smo4.blz
      have hb_mo_ty := smo4.bty
      have hb_mo_he := smo4.bhe
      have hb_mo_cn := smo4.bcn
      have hb_mo_n := smo4.bn
      have hb_mo_mn := smo4.bmn
      change q_W _ _ _ _ _ _ _ _ 19 [.ref (215), .int (v1), .int (nI (k))] [.int (v3)] _
      refine q_iload_n dX11_daysUntilChange_19 rfl ?_
      refine q_icmp_ne 29 dX11_daysUntilChange_20 (by decide) (fun b20 => ?_) (fun b20 => ?_)
      · refine q_forget 1 ?_
        change q_W _ _ _ _ _ _ _ _ _ [.ref (215), q_u, .int (nI (k))] [] _
        exact K k y3_ac y3_al y3_rj y3_ro (by simp only [x_mo_daysUntilChange_8, x3, if_neg b20]) (by omega) h4 smo4 p4
      · refine q_iinc (x := nI (k)) (v := nI (k + 1)) dX11_daysUntilChange_23 rfl (nI_add _ 1) rfl ?_
        change q_W _ _ _ _ _ _ _ _ _ [.ref (215), .int (v1), .int (nI (k + 1))] [] _
        refine q_goto 8 dX11_daysUntilChange_26 (by decide) ?_
        change q_W _ _ _ _ _ _ _ _ _ [.ref (215), .int (v1), .int (nI (k + 1))] [] _
        exact ih (k + 1) y3_ac y3_al y3_rj y3_ro h4 smo4 p4 (by omega) (fun r8_0 r8_1 r8_2 r8_3 r8_4 e9 => K r8_0 r8_1 r8_2 r8_3 r8_4 (by simp only [x_mo_daysUntilChange_8, x3, if_pos b20]; exact e9))
def x_mo_daysUntilChange (al : Nat → Int32) (ro : Nat → Int32) (n : Nat) : (Int32) × (Int32) × (Nat → Int32) × (Int32) × (Int32) × (Nat → Int32) := (match x_mo_labelsAfter al ro n 0 with | (v1, y1_al, y1_ac, y1_rj, y1_ro) => (match x_mo_daysUntilChange_8 n v1 90 1 y1_ac y1_al y1_rj y1_ro with | (a5_0, a5_1, a5_2, a5_3, a5_4) => (if 90 < a5_0 then (0, 1, a5_2, a5_1, a5_3, a5_4) else (nI (a5_0), 0, a5_2, a5_1, a5_3, a5_4))))
set_option maxRecDepth 100000 in
set_option maxHeartbeats 8000000 in
theorem e_mo_daysUntilChange {g : q_G} {h : q_H} {d : Nat} {th : Int32} {al : Nat → Int32} {cg : Nat} {sv : Bool} {rs : Int32} {ac : Int32} {rj : Int32} {ro : Nat → Int32} {ad : Nat → Int32} {bf : Nat → Int32} {ln : Nat → Int32} {lz : Nat} {ip : Nat → Int32} {ty : Nat} {he : Nat} {er : Int32} {ea : Int32} {fa : Int32} {cm : Nat → Int32} {cn : Nat} {n : Nat} {mn : Nat} (smo : z_Mo h 215 th al cg sv rs ac rj ro ad bf ln lz ip ty he er ea fa cm cn n mn)     (hd : 7 ≤ d) : q_Spec g mX11_daysUntilChange d 0 0 [.ref (215)] h (q_chg (.inl (some (.int (x_mo_daysUntilChange al ro n).1))) (fun h1 => z_Mo h1 215 ((x_mo_daysUntilChange al ro n).2.1) ((x_mo_daysUntilChange al ro n).2.2.1) cg sv rs ((x_mo_daysUntilChange al ro n).2.2.2.1) ((x_mo_daysUntilChange al ro n).2.2.2.2.1) ((x_mo_daysUntilChange al ro n).2.2.2.2.2) ad bf ln lz ip ty he er ea fa cm cn n mn ∧ q_same h h1 215 8)) := by
  have hb_mo_cg := smo.bcg
  have hb_mo_lz := smo.blz
  have hb_mo_ty := smo.bty
  have hb_mo_he := smo.bhe
  have hb_mo_cn := smo.bcn
  have hb_mo_n := smo.bn
  have hb_mo_mn := smo.bmn
  have ho_mo_cg := smo.bcg
  have ho_mo_lz := smo.blz
  have ho_mo_ty := smo.bty
  have ho_mo_he := smo.bhe
  have ho_mo_cn := smo.bcn
  have ho_mo_n := smo.bn
  have ho_mo_mn := smo.bmn
  have p0 : q_same h h 215 8 := q_same.rfl'
  refine q_enter (by decide +kernel) rfl rfl (Nat.le_of_ble_eq_true rfl) (fun hz => ?_)
  change q_W _ _ _ _ _ _ _ _ _ [.ref (215), q_u, q_u] [] _
  refine q_aload_n (by first | assumption | omega | decide | (rw [q_R0e]; omega)) dX11_daysUntilChange_0 rfl ?_
  refine q_iconst (v := 0) dX11_daysUntilChange_1 rfl ?_
  rcases x1 : x_mo_labelsAfter al ro n 0 with ⟨v1, y1_al, y1_ac, y1_rj, y1_ro⟩
  have e9 := e_mo_labelsAfter (g := g) (h := h) (d := d - 1) smo 0 (by omega)
  rw [x1] at e9
  refine q_invV (mc' := 0) (ms' := 0) (d' := d - 1) (as := [.int (0)]) dX11_daysUntilChange_2 kM_X11_labelsAfter kL_X11_214 kI_X11_labelsAfter kS_X11_labelsAfter rfl (kC_X11.1) smo.c0 rfl rfl (Nat.le_of_ble_eq_true rfl) (by omega) (by decide) (by omega) (by omega) (e9) (q_kC (fun h2 hB => ?_)) q_xC
  obtain ⟨t2_0, pp2⟩ := hB
  have smo2 := t2_0
  have p2 := p0.trans (pp2.wide (by omega) (by omega))
  have hb_mo_cg := smo2.bcg
  have hb_mo_lz := smo2.blz
  have hb_mo_ty := smo2.bty
  have hb_mo_he := smo2.bhe
  have hb_mo_cn := smo2.bcn
  have hb_mo_n := smo2.bn
  have hb_mo_mn := smo2.bmn
  change q_W _ _ _ _ _ _ _ _ 5 [.ref (215), q_u, q_u] [.int (v1)] _
  refine q_istore_n dX11_daysUntilChange_5 (by decide) rfl ?_
  change q_W _ _ _ _ _ _ _ _ _ [.ref (215), .int (v1), q_u] [] _
  refine q_iconst (v := 1) dX11_daysUntilChange_6 rfl ?_
  refine q_istore_n dX11_daysUntilChange_7 (by decide) rfl ?_
  change q_W _ _ _ _ _ _ _ _ _ [.ref (215), .int (v1), .int (1)] [] _
  change q_W _ _ _ _ _ _ _ _ _ [.ref (215), .int (v1), .int (1)] [] _
  refine l_mo_daysUntilChange_8 ho_mo_cg ho_mo_lz ho_mo_ty ho_mo_he ho_mo_cn ho_mo_n ho_mo_mn (by omega) (by omega) (by omega) 90 1 y1_ac y1_al y1_rj y1_ro h2 smo2 p2 (by omega) (fun a5_0 a5_1 a5_2 a5_3 a5_4 x5 hq5_0 h6 smo6 p6 => ?_)
  have hb_mo_cg := smo6.bcg
  have hb_mo_lz := smo6.blz
  have hb_mo_ty := smo6.bty
  have hb_mo_he := smo6.bhe
  have hb_mo_cn := smo6.bcn
  have hb_mo_n := smo6.bn
  have hb_mo_mn := smo6.bmn
  change q_W _ _ _ _ _ _ _ _ 29 [.ref (215), q_u, .int (nI (a5_0))] [] _
  refine q_aload_n (by first | assumption | omega | decide | (rw [q_R0e]; omega)) dX11_daysUntilChange_29 rfl ?_
  refine q_iload_n dX11_daysUntilChange_30 rfl ?_
  refine q_bipush (v := 90) dX11_daysUntilChange_31 rfl ?_
  refine q_icmp_gt 40 dX11_daysUntilChange_33 (by decide) (fun b33 => ?_) (fun b33 => ?_)
  · have b33 := (nI_ltI (a := 90) (b := a5_0) (by omega) (by omega)).mp b33
    refine q_iconst (v := 0) dX11_daysUntilChange_40 rfl ?_
    refine q_invV (mc' := 0) (ms' := 0) (d' := d - 1) (as := [.int (0)]) dX11_daysUntilChange_41 kM_X11_isFine kL_X11_181 kI_X11_isFine kS_X11_isFine rfl (kC_X11.1) smo6.c0 rfl rfl (Nat.le_of_ble_eq_true rfl) (by omega) (by decide) (by omega) (by omega) (e_isFine (d := d - 1) smo6 (xb := false) (by omega)) (q_kC (fun h7 hB => ?_)) q_xC
    obtain ⟨t7_0, pp7⟩ := hB
    have smo7 : z_Mo h7 215 1 a5_2 cg sv rs a5_1 a5_3 a5_4 ad bf ln lz ip ty he er ea fa cm cn n mn := t7_0
    have p7 := p6.trans (pp7.wide (by omega) (by omega))
    have hb_mo_cg := smo7.bcg
    have hb_mo_lz := smo7.blz
    have hb_mo_ty := smo7.bty
    have hb_mo_he := smo7.bhe
    have hb_mo_cn := smo7.bcn
    have hb_mo_n := smo7.bn
    have hb_mo_mn := smo7.bmn
    change q_W _ _ _ _ _ _ _ _ 44 [.ref (215), q_u, .int (nI (a5_0))] [.int (0)] _
    refine q_if_eq 51 dX11_daysUntilChange_44 (by decide) (fun b44 => ?_) (fun b44 => ?_)
    · refine q_iconst (v := 0) dX11_daysUntilChange_51 rfl ?_
      have hE : x_mo_daysUntilChange al ro n = (0, 1, a5_2, a5_1, a5_3, a5_4) := by simp only [x_mo_daysUntilChange, x1, x5, if_pos b33]
      rw [hE]
      exact q_ireturn dX11_daysUntilChange_52 rfl rfl (by omega) (by omega) ⟨rfl, smo7, p7⟩
    · exact absurd (by decide) b44
  · have b33 : ¬ (90 < a5_0) := fun q => b33 ((nI_ltI (a := 90) (b := a5_0) (by omega) (by omega)).mpr q)
    refine q_iconst (v := 1) dX11_daysUntilChange_36 rfl ?_
    refine q_goto 41 dX11_daysUntilChange_37 (by decide) ?_
    refine q_invV (mc' := 0) (ms' := 0) (d' := d - 1) (as := [.int (1)]) dX11_daysUntilChange_41 kM_X11_isFine kL_X11_181 kI_X11_isFine kS_X11_isFine rfl (kC_X11.1) smo6.c0 rfl rfl (Nat.le_of_ble_eq_true rfl) (by omega) (by decide) (by omega) (by omega) (e_isFine (d := d - 1) smo6 (xb := true) (by omega)) (q_kC (fun h8 hB => ?_)) q_xC
    obtain ⟨t8_0, pp8⟩ := hB
    have smo8 : z_Mo h8 215 0 a5_2 cg sv rs a5_1 a5_3 a5_4 ad bf ln lz ip ty he er ea fa cm cn n mn := t8_0
    have p8 := p6.trans (pp8.wide (by omega) (by omega))
    have hb_mo_cg := smo8.bcg
    have hb_mo_lz := smo8.blz
    have hb_mo_ty := smo8.bty
    have hb_mo_he := smo8.bhe
    have hb_mo_cn := smo8.bcn
    have hb_mo_n := smo8.bn
    have hb_mo_mn := smo8.bmn
    change q_W _ _ _ _ _ _ _ _ 44 [.ref (215), q_u, .int (nI (a5_0))] [.int (1)] _
    refine q_if_eq 51 dX11_daysUntilChange_44 (by decide) (fun b44 => ?_) (fun b44 => ?_)
    · exact absurd b44 (by decide)
    · refine q_iload_n dX11_daysUntilChange_47 rfl ?_
      refine q_goto 52 dX11_daysUntilChange_48 (by decide) ?_
      have hE : x_mo_daysUntilChange al ro n = (nI (a5_0), 0, a5_2, a5_1, a5_3, a5_4) := by simp only [x_mo_daysUntilChange, x1, x5, if_neg b33]
      rw [hE]
      exact q_ireturn dX11_daysUntilChange_52 rfl rfl (by omega) (by omega) ⟨rfl, smo8, p8⟩
def x_mo_statusAfter (al : Nat → Int32) (ac : Int32) (rj : Int32) (ro : Nat → Int32) (n : Nat) (xid : Int32) (xn : Int32) : (Int32) × (Int32) × (Nat → Int32) × (Int32) × (Int32) × (Nat → Int32) := (if x_th n al xid then (if x_mo_in xn 0 90 then (match x_mo_labelsAfter al ro n xn with | (v2, y2_al, y2_ac, y2_rj, y2_ro) => (x_mo_labelOf y2_ac y2_rj (x_pl n al xid - 1), 0, y2_al, y2_ac, y2_rj, y2_ro)) else (0, 2, al, ac, rj, ro)) else (0, 1, al, ac, rj, ro))
set_option maxRecDepth 100000 in
set_option maxHeartbeats 8000000 in
theorem e_mo_statusAfter {g : q_G} {h : q_H} {d : Nat} {th : Int32} {al : Nat → Int32} {cg : Nat} {sv : Bool} {rs : Int32} {ac : Int32} {rj : Int32} {ro : Nat → Int32} {ad : Nat → Int32} {bf : Nat → Int32} {ln : Nat → Int32} {lz : Nat} {ip : Nat → Int32} {ty : Nat} {he : Nat} {er : Int32} {ea : Int32} {fa : Int32} {cm : Nat → Int32} {cn : Nat} {n : Nat} {mn : Nat} (smo : z_Mo h 215 th al cg sv rs ac rj ro ad bf ln lz ip ty he er ea fa cm cn n mn)  (xid : Int32) (xn : Int32)   (hd : 7 ≤ d) : q_Spec g mX11_statusAfter d 0 0 [.ref (215), .int (xid), .int (xn)] h (q_chg (.inl (some (.int (x_mo_statusAfter al ac rj ro n xid xn).1))) (fun h1 => z_Mo h1 215 ((x_mo_statusAfter al ac rj ro n xid xn).2.1) ((x_mo_statusAfter al ac rj ro n xid xn).2.2.1) cg sv rs ((x_mo_statusAfter al ac rj ro n xid xn).2.2.2.1) ((x_mo_statusAfter al ac rj ro n xid xn).2.2.2.2.1) ((x_mo_statusAfter al ac rj ro n xid xn).2.2.2.2.2) ad bf ln lz ip ty he er ea fa cm cn n mn ∧ q_same h h1 215 8)) := by
  have hb_mo_cg := smo.bcg
  have hb_mo_lz := smo.blz
  have hb_mo_ty := smo.bty
  have hb_mo_he := smo.bhe
  have hb_mo_cn := smo.bcn
  have hb_mo_n := smo.bn
  have hb_mo_mn := smo.bmn
  have ho_mo_cg := smo.bcg
  have ho_mo_lz := smo.blz
  have ho_mo_ty := smo.bty
  have ho_mo_he := smo.bhe
  have ho_mo_cn := smo.bcn
  have ho_mo_n := smo.bn
  have ho_mo_mn := smo.bmn
  have p0 : q_same h h 215 8 := q_same.rfl'
  refine q_enter (by decide +kernel) rfl rfl (Nat.le_of_ble_eq_true rfl) (fun hz => ?_)
  change q_W _ _ _ _ _ _ _ _ _ [.ref (215), .int (xid), .int (xn), q_u] [] _
  refine q_aload_n (by first | assumption | omega | decide | (rw [q_R0e]; omega)) dX11_statusAfter_0 rfl ?_
  refine q_aload_n (by first | assumption | omega | decide | (rw [q_R0e]; omega)) dX11_statusAfter_1 rfl ?_
  refine q_iload_n dX11_statusAfter_2 rfl ?_
  refine q_invV (mc' := 0) (ms' := 0) (d' := d - 1) (as := [.int (xid)]) dX11_statusAfter_3 kM_X11_isThere kL_X11_141 kI_X11_isThere kS_X11_isThere rfl (kC_X11.1) smo.c0 rfl rfl (Nat.le_of_ble_eq_true rfl) (by omega) (by decide) (by omega) (by omega) (e_isThere (d := d - 1) smo xid (by omega)) (q_kR ?_) q_xR
  change q_W _ _ _ _ _ _ _ _ 6 [.ref (215), .int (xid), .int (xn), q_u] [.int (z_b (x_th n al xid)), .ref (215)] _
  refine q_if_ne 13 dX11_statusAfter_6 (by decide) (fun b6 => ?_) (fun b6 => ?_)
  · have b6 := z_b1 b6
    have fb6 : 0 < x_pl n al xid := z_th b6
    refine q_iload_n dX11_statusAfter_13 rfl ?_
    refine q_iconst (v := 0) dX11_statusAfter_14 rfl ?_
    refine q_bipush (v := 90) dX11_statusAfter_15 rfl ?_
    refine q_invS (mc' := 0) (ms' := 0) (d' := d - 1) (as := [.int (xn), .int (0), .int (90)]) dX11_statusAfter_17 kM_X11_in kL_X11_109 kT_X11_in rfl rfl rfl (Nat.le_of_ble_eq_true rfl) (by omega) (by decide) (by omega) (by omega) (e_mo_in (d := d - 1) xn 0 90 (by omega)) (q_kR ?_) q_xR
    change q_W _ _ _ _ _ _ _ _ 20 [.ref (215), .int (xid), .int (xn), q_u] [.int (z_b (x_mo_in xn 0 90)), .ref (215)] _
    refine q_if_ne 27 dX11_statusAfter_20 (by decide) (fun b20 => ?_) (fun b20 => ?_)
    · have b20 := z_b1 b20
      refine q_iconst (v := 0) dX11_statusAfter_27 rfl ?_
      refine q_putf (k := 0) kC_X11 kL_X11_40 rfl (by decide) rfl dX11_statusAfter_28 smo.c0 (Nat.le_of_ble_eq_true rfl) ⟨rfl, rfl⟩ rfl ?_
      refine z_genW (B := fun H => z_Mo H 215 0 al cg sv rs ac rj ro ad bf ln lz ip ty he er ea fa cm cn n mn ∧ q_same h H 215 8) ⟨z_Mo.put0 smo (cg' := cg) (sv' := sv) (lz' := lz) (ty' := ty) (he' := he) (cn' := cn) (hbcg := by first | omega | (split <;> omega)) (hblz := by first | omega | (split <;> omega)) (hbty := by first | omega | (split <;> omega)) (hbhe := by first | omega | (split <;> omega)) (hbcn := by first | omega | (split <;> omega)), p0.trans (q_same.set (by omega) (by omega))⟩ (fun h1 hB => ?_)
      obtain ⟨smo1, p1⟩ := hB
      have hb_mo_cg := smo1.bcg
      have hb_mo_lz := smo1.blz
      have hb_mo_ty := smo1.bty
      have hb_mo_he := smo1.bhe
      have hb_mo_cn := smo1.bcn
      have hb_mo_n := smo1.bn
      have hb_mo_mn := smo1.bmn
      refine q_aload_n (by first | assumption | omega | decide | (rw [q_R0e]; omega)) dX11_statusAfter_31 rfl ?_
      refine q_getf (k := 0) (v := .int (0)) kC_X11 kL_X11_40 rfl (by decide) dX11_statusAfter_32 smo1.c0 rfl ?_
      refine q_if_eq 40 dX11_statusAfter_35 (by decide) (fun b35 => ?_) (fun b35 => ?_)
      · refine q_aload_n (by first | assumption | omega | decide | (rw [q_R0e]; omega)) dX11_statusAfter_40 rfl ?_
        refine q_iload_n dX11_statusAfter_41 rfl ?_
        rcases x2 : x_mo_labelsAfter al ro n xn with ⟨v2, y2_al, y2_ac, y2_rj, y2_ro⟩
        have e9 := e_mo_labelsAfter (g := g) (h := h1) (d := d - 1) smo1 xn (by omega)
        rw [x2] at e9
        refine q_invV (mc' := 0) (ms' := 0) (d' := d - 1) (as := [.int (xn)]) dX11_statusAfter_42 kM_X11_labelsAfter kL_X11_214 kI_X11_labelsAfter kS_X11_labelsAfter rfl (kC_X11.1) smo1.c0 rfl rfl (Nat.le_of_ble_eq_true rfl) (by omega) (by decide) (by omega) (by omega) (e9) (q_kC (fun h3 hB => ?_)) q_xC
        obtain ⟨t3_0, pp3⟩ := hB
        have smo3 := t3_0
        have p3 := p1.trans (pp3.wide (by omega) (by omega))
        have hb_mo_cg := smo3.bcg
        have hb_mo_lz := smo3.blz
        have hb_mo_ty := smo3.bty
        have hb_mo_he := smo3.bhe
        have hb_mo_cn := smo3.bcn
        have hb_mo_n := smo3.bn
        have hb_mo_mn := smo3.bmn
        change q_W _ _ _ _ _ _ _ _ 45 [.ref (215), .int (xid), .int (xn), q_u] [.int (v2)] _
        refine q_istore_n dX11_statusAfter_45 (by decide) rfl ?_
        change q_W _ _ _ _ _ _ _ _ _ [.ref (215), .int (xid), .int (xn), .int (v2)] [] _
        refine q_aload_n (by first | assumption | omega | decide | (rw [q_R0e]; omega)) dX11_statusAfter_46 rfl ?_
        refine q_aload_n (by first | assumption | omega | decide | (rw [q_R0e]; omega)) dX11_statusAfter_47 rfl ?_
        refine q_iload_n dX11_statusAfter_48 rfl ?_
        have g4 : x_pl n y2_al xid = x_pl n al xid := x_pl_congr (fun i hi => by have q9 := z_la_row (al := al) (ro := ro) (n := n) (xd := xn) hi (by omega); rw [x2] at q9; exact q9) (by omega)
        have g4q : x_pl n al xid ≤ n := x_pl_le
        refine q_invV (mc' := 0) (ms' := 0) (d' := d - 1) (as := [.int (xid)]) dX11_statusAfter_49 kM_X11_place kL_X11_57 kI_X11_place kS_X11_place rfl (kC_X11.1) smo3.c0 rfl rfl (Nat.le_of_ble_eq_true rfl) (by omega) (by decide) (by omega) (by omega) ((by have e9 := e_placeP (g := g) (d := d - 1) smo3 xid (by rw [g4]; omega) (by omega); rw [g4] at e9; exact e9)) (q_kR ?_) q_xR
        change q_W _ _ _ _ _ _ _ _ 52 [.ref (215), .int (xid), .int (xn), .int (v2)] [.int (nI (x_pl n al xid - 1)), .ref (215)] _
        refine q_invV (mc' := 0) (ms' := 0) (d' := d - 1) (as := [.int (nI (x_pl n al xid - 1))]) dX11_statusAfter_52 kM_X11_labelOf kL_X11_194 kI_X11_labelOf kS_X11_labelOf rfl (kC_X11.1) smo3.c0 rfl rfl (Nat.le_of_ble_eq_true rfl) (by omega) (by decide) (by omega) (by omega) (e_mo_labelOf (d := d - 1) smo3 (x_pl n al xid - 1) (by omega) (by omega)) (q_kR ?_) q_xR
        change q_W _ _ _ _ _ _ _ _ 55 [.ref (215), .int (xid), .int (xn), .int (v2)] [.int (x_mo_labelOf y2_ac y2_rj (x_pl n al xid - 1))] _
        have hE : x_mo_statusAfter al ac rj ro n xid xn = (x_mo_labelOf y2_ac y2_rj (x_pl n al xid - 1), 0, y2_al, y2_ac, y2_rj, y2_ro) := by simp only [x_mo_statusAfter, if_pos b6, if_pos b20, x2]
        rw [hE]
        exact q_ireturn dX11_statusAfter_55 rfl (z_mlab_nar _ _ _) (by omega) (by omega) ⟨rfl, smo3, p3⟩
      · exact absurd (by decide) b35
    · have b20 := z_b0n b20
      refine q_iconst (v := 2) dX11_statusAfter_23 rfl ?_
      refine q_goto 28 dX11_statusAfter_24 (by decide) ?_
      refine q_putf (k := 0) kC_X11 kL_X11_40 rfl (by decide) rfl dX11_statusAfter_28 smo.c0 (Nat.le_of_ble_eq_true rfl) ⟨rfl, rfl⟩ rfl ?_
      refine z_genW (B := fun H => z_Mo H 215 2 al cg sv rs ac rj ro ad bf ln lz ip ty he er ea fa cm cn n mn ∧ q_same h H 215 8) ⟨z_Mo.put0 smo (cg' := cg) (sv' := sv) (lz' := lz) (ty' := ty) (he' := he) (cn' := cn) (hbcg := by first | omega | (split <;> omega)) (hblz := by first | omega | (split <;> omega)) (hbty := by first | omega | (split <;> omega)) (hbhe := by first | omega | (split <;> omega)) (hbcn := by first | omega | (split <;> omega)), p0.trans (q_same.set (by omega) (by omega))⟩ (fun h5 hB => ?_)
      obtain ⟨smo5, p5⟩ := hB
      have hb_mo_cg := smo5.bcg
      have hb_mo_lz := smo5.blz
      have hb_mo_ty := smo5.bty
      have hb_mo_he := smo5.bhe
      have hb_mo_cn := smo5.bcn
      have hb_mo_n := smo5.bn
      have hb_mo_mn := smo5.bmn
      refine q_aload_n (by first | assumption | omega | decide | (rw [q_R0e]; omega)) dX11_statusAfter_31 rfl ?_
      refine q_getf (k := 0) (v := .int (2)) kC_X11 kL_X11_40 rfl (by decide) dX11_statusAfter_32 smo5.c0 rfl ?_
      refine q_if_eq 40 dX11_statusAfter_35 (by decide) (fun b35 => ?_) (fun b35 => ?_)
      · exact absurd b35 (by decide)
      · refine q_iconst (v := 0) dX11_statusAfter_38 rfl ?_
        have hE : x_mo_statusAfter al ac rj ro n xid xn = (0, 2, al, ac, rj, ro) := by simp only [x_mo_statusAfter, if_pos b6, if_neg b20]
        rw [hE]
        exact q_ireturn dX11_statusAfter_39 rfl rfl (by omega) (by omega) ⟨rfl, smo5, p5⟩
  · have b6 := z_b0n b6
    have fb6 : x_pl n al xid = 0 := z_nth b6
    refine q_iconst (v := 1) dX11_statusAfter_9 rfl ?_
    refine q_goto 28 dX11_statusAfter_10 (by decide) ?_
    refine q_putf (k := 0) kC_X11 kL_X11_40 rfl (by decide) rfl dX11_statusAfter_28 smo.c0 (Nat.le_of_ble_eq_true rfl) ⟨rfl, rfl⟩ rfl ?_
    refine z_genW (B := fun H => z_Mo H 215 1 al cg sv rs ac rj ro ad bf ln lz ip ty he er ea fa cm cn n mn ∧ q_same h H 215 8) ⟨z_Mo.put0 smo (cg' := cg) (sv' := sv) (lz' := lz) (ty' := ty) (he' := he) (cn' := cn) (hbcg := by first | omega | (split <;> omega)) (hblz := by first | omega | (split <;> omega)) (hbty := by first | omega | (split <;> omega)) (hbhe := by first | omega | (split <;> omega)) (hbcn := by first | omega | (split <;> omega)), p0.trans (q_same.set (by omega) (by omega))⟩ (fun h6 hB => ?_)
    obtain ⟨smo6, p6⟩ := hB
    have hb_mo_cg := smo6.bcg
    have hb_mo_lz := smo6.blz
    have hb_mo_ty := smo6.bty
    have hb_mo_he := smo6.bhe
    have hb_mo_cn := smo6.bcn
    have hb_mo_n := smo6.bn
    have hb_mo_mn := smo6.bmn
    refine q_aload_n (by first | assumption | omega | decide | (rw [q_R0e]; omega)) dX11_statusAfter_31 rfl ?_
    refine q_getf (k := 0) (v := .int (1)) kC_X11 kL_X11_40 rfl (by decide) dX11_statusAfter_32 smo6.c0 rfl ?_
    refine q_if_eq 40 dX11_statusAfter_35 (by decide) (fun b35 => ?_) (fun b35 => ?_)
    · exact absurd b35 (by decide)
    · refine q_iconst (v := 0) dX11_statusAfter_38 rfl ?_
      have hE : x_mo_statusAfter al ac rj ro n xid xn = (0, 1, al, ac, rj, ro) := by simp only [x_mo_statusAfter, if_neg b6]
      rw [hE]
      exact q_ireturn dX11_statusAfter_39 rfl rfl (by omega) (by omega) ⟨rfl, smo6, p6⟩
def x_mo_meanStrength_4 (al : Nat → Int32) : Nat → Nat → (Int32) → (Int32)
  | 0, _, c4_1 => c4_1
  | r + 1, k, c4_1 => x_mo_meanStrength_4 al r (k + 1) (c4_1 + (x_mo_strength al k))
set_option maxRecDepth 100000 in
set_option maxHeartbeats 8000000 in
theorem l_mo_meanStrength_4 {g : q_G} {h : q_H} {d mc ms kc ks : Nat} {Q : q_O → q_H → Prop} {th : Int32} {al : Nat → Int32} {cg : Nat} {sv : Bool} {rs : Int32} {ac : Int32} {rj : Int32} {ro : Nat → Int32} {ad : Nat → Int32} {bf : Nat → Int32} {ln : Nat → Int32} {lz : Nat} {ip : Nat → Int32} {ty : Nat} {he : Nat} {er : Int32} {ea : Int32} {fa : Int32} {cm : Nat → Int32} {cn : Nat} {n : Nat} {mn : Nat} (smo : z_Mo h 215 th al cg sv rs ac rj ro ad bf ln lz ip ty he er ea fa cm cn n mn) (p0 : q_same h h 215 8)  (hnan : z_nanD n (x_mo_meanStrength_4 al n 0 0)) (ho_mo_cg : cg ≤ 8) (ho_mo_lz : lz ≤ 160) (ho_mo_ty : ty ≤ 60) (ho_mo_he : he ≤ 60) (ho_mo_cn : cn ≤ 61) (ho_mo_n : n ≤ 8) (ho_mo_mn : mn ≤ 12)  (hd : 2 ≤ d) (hkc : kc + 0 ≤ mc) (hks : ks + 0 ≤ ms) : ∀ (r k : Nat) (c4_1 : Int32) (hk_4 : k + r = n) (K : ∀ (r4_0 : Int32), x_mo_meanStrength_4 al r k c4_1 = r4_0 → q_W g mX11_meanStrength d mc ms Q kc ks 28 [.ref (215), .int (r4_0), q_u] [] h), q_W g mX11_meanStrength d mc ms Q kc ks 4 [.ref (215), .int (c4_1), .int (nI (k))] [] h := by
  intro r
  induction r with
  | zero =>
    intro k c4_1  hk_4 K
    have hb_mo_cg := smo.bcg
    have hb_mo_lz := smo.blz
    have hb_mo_ty := smo.bty
    have hb_mo_he := smo.bhe
    have hb_mo_cn := smo.bcn
    have hb_mo_n := smo.bn
    have hb_mo_mn := smo.bmn
    refine q_iload_n dX11_meanStrength_4 rfl ?_
    refine q_aload_n (by first | assumption | omega | decide | (rw [q_R0e]; omega)) dX11_meanStrength_5 rfl ?_
    refine q_getf (k := 1) (v := .ref (216)) kC_X11 kL_X11_9 rfl (by decide) dX11_meanStrength_6 smo.c0 rfl ?_
    refine q_iconst (v := 0) dX11_meanStrength_9 rfl ?_
    refine q_ialdN (j := 0) (f := al) dX11_meanStrength_10 smo.c1 (by omega) (by decide) ?_
    rw [smo.en]
    change q_W _ _ _ _ _ _ _ _ _ _ [.int (nI (n)), .int (nI (k))] _
    refine q_icmp_ge 28 dX11_meanStrength_11 (by decide) (fun b11 => ?_) (fun b11 => ?_)
    · have b11 := (nI_leI (a := n) (b := k) (by omega) (by omega)).mp b11
      refine q_forget 2 ?_
      change q_W _ _ _ _ _ _ _ _ _ [.ref (215), .int (c4_1), q_u] [] _
      exact K c4_1 (by simp only [x_mo_meanStrength_4])
    · have b11 : ¬ (n ≤ k) := fun q => b11 ((nI_leI (a := n) (b := k) (by omega) (by omega)).mpr q)
      exact absurd b11 (by omega)
  | succ r ih =>
    intro k c4_1  hk_4 K
    have hb_mo_cg := smo.bcg
    have hb_mo_lz := smo.blz
    have hb_mo_ty := smo.bty
    have hb_mo_he := smo.bhe
    have hb_mo_cn := smo.bcn
    have hb_mo_n := smo.bn
    have hb_mo_mn := smo.bmn
    refine q_iload_n dX11_meanStrength_4 rfl ?_
    refine q_aload_n (by first | assumption | omega | decide | (rw [q_R0e]; omega)) dX11_meanStrength_5 rfl ?_
    refine q_getf (k := 1) (v := .ref (216)) kC_X11 kL_X11_9 rfl (by decide) dX11_meanStrength_6 smo.c0 rfl ?_
    refine q_iconst (v := 0) dX11_meanStrength_9 rfl ?_
    refine q_ialdN (j := 0) (f := al) dX11_meanStrength_10 smo.c1 (by omega) (by decide) ?_
    rw [smo.en]
    change q_W _ _ _ _ _ _ _ _ _ _ [.int (nI (n)), .int (nI (k))] _
    refine q_icmp_ge 28 dX11_meanStrength_11 (by decide) (fun b11 => ?_) (fun b11 => ?_)
    · have b11 := (nI_leI (a := n) (b := k) (by omega) (by omega)).mp b11
      exact absurd b11 (by omega)
    · have b11 : ¬ (n ≤ k) := fun q => b11 ((nI_leI (a := n) (b := k) (by omega) (by omega)).mpr q)
      refine q_iload_n dX11_meanStrength_14 rfl ?_
      refine q_aload_n (by first | assumption | omega | decide | (rw [q_R0e]; omega)) dX11_meanStrength_15 rfl ?_
      refine q_iload_n dX11_meanStrength_16 rfl ?_
      refine q_invV (mc' := 0) (ms' := 0) (d' := d - 1) (as := [.int (nI (k))]) dX11_meanStrength_17 kM_X11_strength kL_X11_65 kI_X11_strength kS_X11_strength rfl (kC_X11.1) smo.c0 rfl rfl (Nat.le_of_ble_eq_true rfl) (by omega) (by decide) (by omega) (by omega) (e_mo_strength (d := d - 1) smo k (by omega) (by omega)) (q_kR ?_) q_xR
      change q_W _ _ _ _ _ _ _ _ 20 [.ref (215), .int (c4_1), .int (nI (k))] [.int (x_mo_strength al k), .int (c4_1)] _
      refine q_iadd dX11_meanStrength_20 ?_
      refine q_istore_n dX11_meanStrength_21 (by decide) rfl ?_
      change q_W _ _ _ _ _ _ _ _ _ [.ref (215), .int (c4_1 + (x_mo_strength al k)), .int (nI (k))] [] _
      refine q_iinc (x := nI (k)) (v := nI (k + 1)) dX11_meanStrength_22 rfl (nI_add _ 1) rfl ?_
      change q_W _ _ _ _ _ _ _ _ _ [.ref (215), .int (c4_1 + (x_mo_strength al k)), .int (nI (k + 1))] [] _
      refine q_goto 4 dX11_meanStrength_25 (by decide) ?_
      change q_W _ _ _ _ _ _ _ _ _ [.ref (215), .int (c4_1 + (x_mo_strength al k)), .int (nI (k + 1))] [] _
      exact ih (k + 1) (c4_1 + (x_mo_strength al k)) (by omega) (fun r4_0 e9 => K r4_0 (by simp only [x_mo_meanStrength_4]; exact e9))
def x_mo_meanStrength (al : Nat → Int32) (n : Nat) : (UInt64) × (Int32) := (let a1_0 := x_mo_meanStrength_4 al n 0 0; (if n ≤ 0 then (FP.dconst0, 1) else (FP.ddiv (FP.i2d (a1_0)) (FP.i2d (nI (n))), 0)))
set_option maxRecDepth 100000 in
set_option maxHeartbeats 8000000 in
theorem e_mo_meanStrength {g : q_G} {h : q_H} {d : Nat} {th : Int32} {al : Nat → Int32} {cg : Nat} {sv : Bool} {rs : Int32} {ac : Int32} {rj : Int32} {ro : Nat → Int32} {ad : Nat → Int32} {bf : Nat → Int32} {ln : Nat → Int32} {lz : Nat} {ip : Nat → Int32} {ty : Nat} {he : Nat} {er : Int32} {ea : Int32} {fa : Int32} {cm : Nat → Int32} {cn : Nat} {n : Nat} {mn : Nat} (smo : z_Mo h 215 th al cg sv rs ac rj ro ad bf ln lz ip ty he er ea fa cm cn n mn)   (hnan : z_nanD n (x_mo_meanStrength_4 al n 0 0))  (hd : 2 ≤ d) : q_Spec g mX11_meanStrength d 0 0 [.ref (215)] h (q_chg (.inl (some (.double (x_mo_meanStrength al n).1))) (fun h1 => z_Mo h1 215 ((x_mo_meanStrength al n).2) al cg sv rs ac rj ro ad bf ln lz ip ty he er ea fa cm cn n mn ∧ q_same h h1 215 8)) := by
  have hb_mo_cg := smo.bcg
  have hb_mo_lz := smo.blz
  have hb_mo_ty := smo.bty
  have hb_mo_he := smo.bhe
  have hb_mo_cn := smo.bcn
  have hb_mo_n := smo.bn
  have hb_mo_mn := smo.bmn
  have ho_mo_cg := smo.bcg
  have ho_mo_lz := smo.blz
  have ho_mo_ty := smo.bty
  have ho_mo_he := smo.bhe
  have ho_mo_cn := smo.bcn
  have ho_mo_n := smo.bn
  have ho_mo_mn := smo.bmn
  have p0 : q_same h h 215 8 := q_same.rfl'
  refine q_enter (by decide +kernel) rfl rfl (Nat.le_of_ble_eq_true rfl) (fun hz => ?_)
  change q_W _ _ _ _ _ _ _ _ _ [.ref (215), q_u, q_u] [] _
  refine q_iconst (v := 0) dX11_meanStrength_0 rfl ?_
  refine q_istore_n dX11_meanStrength_1 (by decide) rfl ?_
  change q_W _ _ _ _ _ _ _ _ _ [.ref (215), .int (0), q_u] [] _
  refine q_iconst (v := 0) dX11_meanStrength_2 rfl ?_
  refine q_istore_n dX11_meanStrength_3 (by decide) rfl ?_
  change q_W _ _ _ _ _ _ _ _ _ [.ref (215), .int (0), .int (0)] [] _
  change q_W _ _ _ _ _ _ _ _ _ [.ref (215), .int (0), .int (0)] [] _
  refine l_mo_meanStrength_4 smo p0 hnan ho_mo_cg ho_mo_lz ho_mo_ty ho_mo_he ho_mo_cn ho_mo_n ho_mo_mn (by omega) (by omega) (by omega) n 0 0 (by omega) (fun a1_0 x1 => ?_)
  change q_W _ _ _ _ _ _ _ _ 28 [.ref (215), .int (a1_0), q_u] [] _
  refine q_aload_n (by first | assumption | omega | decide | (rw [q_R0e]; omega)) dX11_meanStrength_28 rfl ?_
  refine q_aload_n (by first | assumption | omega | decide | (rw [q_R0e]; omega)) dX11_meanStrength_29 rfl ?_
  refine q_getf (k := 1) (v := .ref (216)) kC_X11 kL_X11_9 rfl (by decide) dX11_meanStrength_30 smo.c0 rfl ?_
  refine q_iconst (v := 0) dX11_meanStrength_33 rfl ?_
  refine q_ialdN (j := 0) (f := al) dX11_meanStrength_34 smo.c1 (by omega) (by decide) ?_
  rw [smo.en]
  change q_W _ _ _ _ _ _ _ _ _ _ [.int (nI (n)), .ref (215)] _
  refine q_if_le 42 dX11_meanStrength_35 (by decide) (fun b35 => ?_) (fun b35 => ?_)
  · have b35 := (nI_leI (a := n) (b := 0) (by omega) (by omega)).mp b35
    refine q_iconst (v := 0) dX11_meanStrength_42 rfl ?_
    refine q_invV (mc' := 0) (ms' := 0) (d' := d - 1) (as := [.int (0)]) dX11_meanStrength_43 kM_X11_isFine kL_X11_181 kI_X11_isFine kS_X11_isFine rfl (kC_X11.1) smo.c0 rfl rfl (Nat.le_of_ble_eq_true rfl) (by omega) (by decide) (by omega) (by omega) (e_isFine (d := d - 1) smo (xb := false) (by omega)) (q_kC (fun h3 hB => ?_)) q_xC
    obtain ⟨t3_0, pp3⟩ := hB
    have smo3 : z_Mo h3 215 1 al cg sv rs ac rj ro ad bf ln lz ip ty he er ea fa cm cn n mn := t3_0
    have p3 := p0.trans (pp3.wide (by omega) (by omega))
    have hb_mo_cg := smo3.bcg
    have hb_mo_lz := smo3.blz
    have hb_mo_ty := smo3.bty
    have hb_mo_he := smo3.bhe
    have hb_mo_cn := smo3.bcn
    have hb_mo_n := smo3.bn
    have hb_mo_mn := smo3.bmn
    change q_W _ _ _ _ _ _ _ _ 46 [.ref (215), .int (a1_0), q_u] [.int (0)] _
    refine q_if_eq 62 dX11_meanStrength_46 (by decide) (fun b46 => ?_) (fun b46 => ?_)
    · refine q_dconst0 dX11_meanStrength_62 ?_
      have hE : x_mo_meanStrength al n = (FP.dconst0, 1) := by simp only [x_mo_meanStrength, x1, if_pos b35]
      rw [hE]
      exact q_dreturn dX11_meanStrength_63 rfl (by omega) (by omega) ⟨rfl, smo3, p3⟩
    · exact absurd (by decide) b46
  · have b35 : ¬ (n ≤ 0) := fun q => b35 ((nI_leI (a := n) (b := 0) (by omega) (by omega)).mpr q)
    refine q_iconst (v := 1) dX11_meanStrength_38 rfl ?_
    refine q_goto 43 dX11_meanStrength_39 (by decide) ?_
    refine q_invV (mc' := 0) (ms' := 0) (d' := d - 1) (as := [.int (1)]) dX11_meanStrength_43 kM_X11_isFine kL_X11_181 kI_X11_isFine kS_X11_isFine rfl (kC_X11.1) smo.c0 rfl rfl (Nat.le_of_ble_eq_true rfl) (by omega) (by decide) (by omega) (by omega) (e_isFine (d := d - 1) smo (xb := true) (by omega)) (q_kC (fun h4 hB => ?_)) q_xC
    obtain ⟨t4_0, pp4⟩ := hB
    have smo4 : z_Mo h4 215 0 al cg sv rs ac rj ro ad bf ln lz ip ty he er ea fa cm cn n mn := t4_0
    have p4 := p0.trans (pp4.wide (by omega) (by omega))
    have hb_mo_cg := smo4.bcg
    have hb_mo_lz := smo4.blz
    have hb_mo_ty := smo4.bty
    have hb_mo_he := smo4.bhe
    have hb_mo_cn := smo4.bcn
    have hb_mo_n := smo4.bn
    have hb_mo_mn := smo4.bmn
    change q_W _ _ _ _ _ _ _ _ 46 [.ref (215), .int (a1_0), q_u] [.int (1)] _
    refine q_if_eq 62 dX11_meanStrength_46 (by decide) (fun b46 => ?_) (fun b46 => ?_)
    · exact absurd b46 (by decide)
    · refine q_iload_n dX11_meanStrength_49 rfl ?_
      refine q_i2d dX11_meanStrength_50 ?_
      refine q_aload_n (by first | assumption | omega | decide | (rw [q_R0e]; omega)) dX11_meanStrength_51 rfl ?_
      refine q_getf (k := 1) (v := .ref (216)) kC_X11 kL_X11_9 rfl (by decide) dX11_meanStrength_52 smo4.c0 rfl ?_
      refine q_iconst (v := 0) dX11_meanStrength_55 rfl ?_
      refine q_ialdN (j := 0) (f := al) dX11_meanStrength_56 smo4.c1 (by omega) (by decide) ?_
      rw [smo4.en]
      change q_W _ _ _ _ _ _ _ _ _ _ [.int (nI (n)), .double (FP.i2d (a1_0))] _
      refine q_i2d dX11_meanStrength_57 ?_
      refine q_ddiv dX11_meanStrength_58 (by rw [← x1]; exact hnan (by omega)) ?_
      refine q_goto 63 dX11_meanStrength_59 (by decide) ?_
      have hE : x_mo_meanStrength al n = (FP.ddiv (FP.i2d (a1_0)) (FP.i2d (nI (n))), 0) := by simp only [x_mo_meanStrength, x1, if_neg b35]
      rw [hE]
      exact q_dreturn dX11_meanStrength_63 rfl (by omega) (by omega) ⟨rfl, smo4, p4⟩
def x_mo_acceptedShare (al : Nat → Int32) (ro : Nat → Int32) (n : Nat) : (UInt32) × (Int32) × (Int32) × (Int32) × (Nat → Int32) := (match x_mo_labelsAll al n ro with | (y1_ac, y1_rj, y1_ro) => (if n ≤ 0 then (FP.fconst0, 1, y1_ac, y1_rj, y1_ro) else (FP.fdiv (FP.i2f (x_mo_size y1_ac)) (FP.i2f (nI (n))), 0, y1_ac, y1_rj, y1_ro)))
set_option maxRecDepth 100000 in
set_option maxHeartbeats 8000000 in
theorem e_mo_acceptedShare {g : q_G} {h : q_H} {d : Nat} {th : Int32} {al : Nat → Int32} {cg : Nat} {sv : Bool} {rs : Int32} {ac : Int32} {rj : Int32} {ro : Nat → Int32} {ad : Nat → Int32} {bf : Nat → Int32} {ln : Nat → Int32} {lz : Nat} {ip : Nat → Int32} {ty : Nat} {he : Nat} {er : Int32} {ea : Int32} {fa : Int32} {cm : Nat → Int32} {cn : Nat} {n : Nat} {mn : Nat} (smo : z_Mo h 215 th al cg sv rs ac rj ro ad bf ln lz ip ty he er ea fa cm cn n mn)   (hnan : z_nanF n (x_mo_size (x_mo_labelsAll al n ro).1))  (hd : 6 ≤ d) : q_Spec g mX11_acceptedShare d 0 0 [.ref (215)] h (q_chg (.inl (some (.float (x_mo_acceptedShare al ro n).1))) (fun h1 => z_Mo h1 215 ((x_mo_acceptedShare al ro n).2.1) al cg sv rs ((x_mo_acceptedShare al ro n).2.2.1) ((x_mo_acceptedShare al ro n).2.2.2.1) ((x_mo_acceptedShare al ro n).2.2.2.2) ad bf ln lz ip ty he er ea fa cm cn n mn ∧ q_same h h1 215 8)) := by
  have hb_mo_cg := smo.bcg
  have hb_mo_lz := smo.blz
  have hb_mo_ty := smo.bty
  have hb_mo_he := smo.bhe
  have hb_mo_cn := smo.bcn
  have hb_mo_n := smo.bn
  have hb_mo_mn := smo.bmn
  have ho_mo_cg := smo.bcg
  have ho_mo_lz := smo.blz
  have ho_mo_ty := smo.bty
  have ho_mo_he := smo.bhe
  have ho_mo_cn := smo.bcn
  have ho_mo_n := smo.bn
  have ho_mo_mn := smo.bmn
  have p0 : q_same h h 215 8 := q_same.rfl'
  refine q_enter (by decide +kernel) rfl rfl (Nat.le_of_ble_eq_true rfl) (fun hz => ?_)
  change q_W _ _ _ _ _ _ _ _ _ [.ref (215)] [] _
  refine q_aload_n (by first | assumption | omega | decide | (rw [q_R0e]; omega)) dX11_acceptedShare_0 rfl ?_
  rcases x1 : x_mo_labelsAll al n ro with ⟨y1_ac, y1_rj, y1_ro⟩
  have e9 := e_mo_labelsAll (g := g) (h := h) (d := d - 1) smo (by omega)
  rw [x1] at e9
  refine q_invV (mc' := 0) (ms' := 0) (d' := d - 1) (as := []) dX11_acceptedShare_1 kM_X11_labelsAll kL_X11_191 kI_X11_labelsAll kS_X11_labelsAll rfl (kC_X11.1) smo.c0 rfl rfl (Nat.le_of_ble_eq_true rfl) (by omega) (by decide) (by omega) (by omega) (e9) (q_kC (fun h2 hB => ?_)) q_xC
  obtain ⟨t2_0, pp2⟩ := hB
  have smo2 := t2_0
  have p2 := p0.trans (pp2.wide (by omega) (by omega))
  have hb_mo_cg := smo2.bcg
  have hb_mo_lz := smo2.blz
  have hb_mo_ty := smo2.bty
  have hb_mo_he := smo2.bhe
  have hb_mo_cn := smo2.bcn
  have hb_mo_n := smo2.bn
  have hb_mo_mn := smo2.bmn
  change q_W _ _ _ _ _ _ _ _ 4 [.ref (215)] [] _
  refine q_aload_n (by first | assumption | omega | decide | (rw [q_R0e]; omega)) dX11_acceptedShare_4 rfl ?_
  refine q_aload_n (by first | assumption | omega | decide | (rw [q_R0e]; omega)) dX11_acceptedShare_5 rfl ?_
  refine q_getf (k := 1) (v := .ref (216)) kC_X11 kL_X11_9 rfl (by decide) dX11_acceptedShare_6 smo2.c0 rfl ?_
  refine q_iconst (v := 0) dX11_acceptedShare_9 rfl ?_
  refine q_ialdN (j := 0) (f := al) dX11_acceptedShare_10 smo2.c1 (by omega) (by decide) ?_
  rw [smo2.en]
  change q_W _ _ _ _ _ _ _ _ _ _ [.int (nI (n)), .ref (215)] _
  refine q_if_le 18 dX11_acceptedShare_11 (by decide) (fun b11 => ?_) (fun b11 => ?_)
  · have b11 := (nI_leI (a := n) (b := 0) (by omega) (by omega)).mp b11
    refine q_iconst (v := 0) dX11_acceptedShare_18 rfl ?_
    refine q_invV (mc' := 0) (ms' := 0) (d' := d - 1) (as := [.int (0)]) dX11_acceptedShare_19 kM_X11_isFine kL_X11_181 kI_X11_isFine kS_X11_isFine rfl (kC_X11.1) smo2.c0 rfl rfl (Nat.le_of_ble_eq_true rfl) (by omega) (by decide) (by omega) (by omega) (e_isFine (d := d - 1) smo2 (xb := false) (by omega)) (q_kC (fun h3 hB => ?_)) q_xC
    obtain ⟨t3_0, pp3⟩ := hB
    have smo3 : z_Mo h3 215 1 al cg sv rs y1_ac y1_rj y1_ro ad bf ln lz ip ty he er ea fa cm cn n mn := t3_0
    have p3 := p2.trans (pp3.wide (by omega) (by omega))
    have hb_mo_cg := smo3.bcg
    have hb_mo_lz := smo3.blz
    have hb_mo_ty := smo3.bty
    have hb_mo_he := smo3.bhe
    have hb_mo_cn := smo3.bcn
    have hb_mo_n := smo3.bn
    have hb_mo_mn := smo3.bmn
    change q_W _ _ _ _ _ _ _ _ 22 [.ref (215)] [.int (0)] _
    refine q_if_eq 44 dX11_acceptedShare_22 (by decide) (fun b22 => ?_) (fun b22 => ?_)
    · refine q_fconst0 dX11_acceptedShare_44 ?_
      have hE : x_mo_acceptedShare al ro n = (FP.fconst0, 1, y1_ac, y1_rj, y1_ro) := by simp only [x_mo_acceptedShare, x1, if_pos b11]
      rw [hE]
      exact q_freturn dX11_acceptedShare_45 rfl (by omega) (by omega) ⟨rfl, smo3, p3⟩
    · exact absurd (by decide) b22
  · have b11 : ¬ (n ≤ 0) := fun q => b11 ((nI_leI (a := n) (b := 0) (by omega) (by omega)).mpr q)
    refine q_iconst (v := 1) dX11_acceptedShare_14 rfl ?_
    refine q_goto 19 dX11_acceptedShare_15 (by decide) ?_
    refine q_invV (mc' := 0) (ms' := 0) (d' := d - 1) (as := [.int (1)]) dX11_acceptedShare_19 kM_X11_isFine kL_X11_181 kI_X11_isFine kS_X11_isFine rfl (kC_X11.1) smo2.c0 rfl rfl (Nat.le_of_ble_eq_true rfl) (by omega) (by decide) (by omega) (by omega) (e_isFine (d := d - 1) smo2 (xb := true) (by omega)) (q_kC (fun h4 hB => ?_)) q_xC
    obtain ⟨t4_0, pp4⟩ := hB
    have smo4 : z_Mo h4 215 0 al cg sv rs y1_ac y1_rj y1_ro ad bf ln lz ip ty he er ea fa cm cn n mn := t4_0
    have p4 := p2.trans (pp4.wide (by omega) (by omega))
    have hb_mo_cg := smo4.bcg
    have hb_mo_lz := smo4.blz
    have hb_mo_ty := smo4.bty
    have hb_mo_he := smo4.bhe
    have hb_mo_cn := smo4.bcn
    have hb_mo_n := smo4.bn
    have hb_mo_mn := smo4.bmn
    change q_W _ _ _ _ _ _ _ _ 22 [.ref (215)] [.int (1)] _
    refine q_if_eq 44 dX11_acceptedShare_22 (by decide) (fun b22 => ?_) (fun b22 => ?_)
    · exact absurd b22 (by decide)
    · refine q_aload_n (by first | assumption | omega | decide | (rw [q_R0e]; omega)) dX11_acceptedShare_25 rfl ?_
      refine q_getf (k := 5) (v := .int (y1_ac)) kC_X11 kL_X11_74 rfl (by decide) dX11_acceptedShare_26 smo4.c0 rfl ?_
      refine q_invS (mc' := 0) (ms' := 0) (d' := d - 1) (as := [.int (y1_ac)]) dX11_acceptedShare_29 kM_X11_size kL_X11_68 kT_X11_size rfl rfl rfl (Nat.le_of_ble_eq_true rfl) (by omega) (by decide) (by omega) (by omega) (e_mo_size (d := d - 1) y1_ac (by omega)) (q_kR ?_) q_xR
      change q_W _ _ _ _ _ _ _ _ 32 [.ref (215)] [.int (x_mo_size y1_ac)] _
      refine q_i2f dX11_acceptedShare_32 ?_
      refine q_aload_n (by first | assumption | omega | decide | (rw [q_R0e]; omega)) dX11_acceptedShare_33 rfl ?_
      refine q_getf (k := 1) (v := .ref (216)) kC_X11 kL_X11_9 rfl (by decide) dX11_acceptedShare_34 smo4.c0 rfl ?_
      refine q_iconst (v := 0) dX11_acceptedShare_37 rfl ?_
      refine q_ialdN (j := 0) (f := al) dX11_acceptedShare_38 smo4.c1 (by omega) (by decide) ?_
      rw [smo4.en]
      change q_W _ _ _ _ _ _ _ _ _ _ [.int (nI (n)), .float (FP.i2f (x_mo_size y1_ac))] _
      refine q_i2f dX11_acceptedShare_39 ?_
      refine q_fdiv dX11_acceptedShare_40 (by have q := hnan (by omega); rw [x1] at q; exact q) ?_
      refine q_goto 45 dX11_acceptedShare_41 (by decide) ?_
      have hE : x_mo_acceptedShare al ro n = (FP.fdiv (FP.i2f (x_mo_size y1_ac)) (FP.i2f (nI (n))), 0, y1_ac, y1_rj, y1_ro) := by simp only [x_mo_acceptedShare, x1, if_neg b11]
      rw [hE]
      exact q_freturn dX11_acceptedShare_45 rfl (by omega) (by omega) ⟨rfl, smo4, p4⟩