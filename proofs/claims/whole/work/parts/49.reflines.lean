def x_mo_formatArgument_81 (al : Nat → Int32) (n : Nat) (xid : Int32) : Nat → Nat → (Nat → Int32) → (Nat) → (Nat → Int32) × (Nat)
  | 0, _, ln_81, lz_81 => (ln_81, lz_81)
  | r + 1, k, ln_81, lz_81 => (if (((x_mo_attackers al n (x_pl n al xid - 1)) >>> ((nI (k)) &&& 31)) &&& (1 : Int32)) = (1) then x_mo_formatArgument_81 al n xid r (k + 1) (x_wr (upd ln_81 lz_81 (z_c16 60)) (lz_81 + 1) ((al (7 + 3 * k + 0)).toNatClampNeg)) (lz_81 + 1 + sb_dg ((al (7 + 3 * k + 0)).toNatClampNeg)) else x_mo_formatArgument_81 al n xid r (k + 1) ln_81 lz_81)
set_option maxRecDepth 100000 in
set_option maxHeartbeats 8000000 in
theorem l_mo_formatArgument_81 {g : q_G} {h : q_H} {d mc ms kc ks : Nat} {Q : q_O → q_H → Prop} {al : Nat → Int32} {cg : Nat} {sv : Bool} {rs : Int32} {ad : Nat → Int32} {bf : Nat → Int32} {ip : Nat → Int32} {ty : Nat} {he : Nat} {er : Int32} {ea : Int32} {fa : Int32} {cm : Nat → Int32} {cn : Nat} {n : Nat} {mn : Nat} {xid : Int32} {y3_ac : Int32} {y3_rj : Int32} {y3_ro : Nat → Int32}   (hnx : x_th n al xid = true → ∃ m : Nat, m < 10000 ∧ xid = nI m) (hnid : ∀ j, j < n → ∃ m : Nat, m < 10000 ∧ al (7 + 3 * j + 0) = nI m) (hnwt : ∀ j, j < n → ∃ m : Nat, m < 10000 ∧ al (7 + 3 * j + 1) = nI m) (hnst : ∀ j, j < n → ∃ m : Nat, m < 10000 ∧ x_mo_strength al j = nI m) (ho_mo_cg : cg ≤ 8) (ho_mo_ty : ty ≤ 60) (ho_mo_he : he ≤ 60) (ho_mo_cn : cn ≤ 61) (ho_mo_n : n ≤ 8) (ho_mo_mn : mn ≤ 12) (fb9 : 0 < x_pl n al xid) (g2 : x_pl n al xid ≤ n) (g6 : sb_dg ((xid).toNatClampNeg) ≤ 4) (g8 : sb_dg ((x_mo_strength al (x_pl n al xid - 1)).toNatClampNeg) ≤ 4) (g10 : sb_dg ((al (7 + 3 * (x_pl n al xid - 1) + 1)).toNatClampNeg) ≤ 4)  (hd : 7 ≤ d) (hkc : kc + 0 ≤ mc) (hks : ks + 0 ≤ ms) : ∀ (r k : Nat) (ln_81 : Nat → Int32) (lz_81 : Nat) (hh : q_H) (smo_81 : z_Mo hh 215 (if x_th n al xid then 0 else 1) al cg sv rs y3_ac y3_rj y3_ro ad bf ln_81 lz_81 ip ty he er ea fa cm cn n mn) (pH : q_same h hh 215 8) (hk_81 : k + r = n) (hn_lz_81 : lz_81 ≤ 16 + 5 * k) (K : ∀ (r81_0 : Nat → Int32) (r81_1 : Nat), x_mo_formatArgument_81 al n xid r k ln_81 lz_81 = (r81_0, r81_1) → r81_1 ≤ 16 + 5 * n → ∀ h2, z_Mo h2 215 (if x_th n al xid then 0 else 1) al cg sv rs y3_ac y3_rj y3_ro ad bf r81_0 r81_1 ip ty he er ea fa cm cn n mn → q_same h h2 215 8 → q_W g mX11_formatArgument d mc ms Q kc ks 121 [.ref (215), q_u, q_u, q_u, q_u] [] h2), q_W g mX11_formatArgument d mc ms Q kc ks 81 [.ref (215), q_u, q_u, .int (x_mo_attackers al n (x_pl n al xid - 1)), .int (nI (k))] [] hh := by
  intro r
  induction r with
  | zero =>
    intro k ln_81 lz_81 hh smo_81 pH hk_81 hn_lz_81 K
    have hb_mo_cg := smo_81.bcg
    have hb_mo_lz := smo_81.blz
    have hb_mo_ty := smo_81.bty
    have hb_mo_he := smo_81.bhe
    have hb_mo_cn := smo_81.bcn
    have hb_mo_n := smo_81.bn
    have hb_mo_mn := smo_81.bmn
    refine q_iload dX11_formatArgument_81 rfl ?_
    refine q_aload_n (by first | assumption | omega | decide | (rw [q_R0e]; omega)) dX11_formatArgument_83 rfl ?_
    refine q_getf (k := 1) (v := .ref (216)) kC_X11 kL_X11_9 rfl (by decide) dX11_formatArgument_84 smo_81.c0 rfl ?_
    refine q_iconst (v := 0) dX11_formatArgument_87 rfl ?_
    refine q_ialdN (j := 0) (f := al) dX11_formatArgument_88 smo_81.c1 (by omega) (by decide) ?_
    rw [smo_81.en]
    change q_W _ _ _ _ _ _ _ _ _ _ [.int (nI (n)), .int (nI (k))] _
    refine q_icmp_ge 121 dX11_formatArgument_89 (by decide) (fun b89 => ?_) (fun b89 => ?_)
    · have b89 := (nI_leI (a := n) (b := k) (by omega) (by omega)).mp b89
      refine q_forget 3 ?_
      refine q_forget 4 ?_
      change q_W _ _ _ _ _ _ _ _ _ [.ref (215), q_u, q_u, q_u, q_u] [] _
      exact K ln_81 lz_81 (by simp only [x_mo_formatArgument_81]) (by omega) hh smo_81 pH
    · have b89 : ¬ (n ≤ k) := fun q => b89 ((nI_leI (a := n) (b := k) (by omega) (by omega)).mpr q)
      exact absurd b89 (by omega)
  | succ r ih =>
    intro k ln_81 lz_81 hh smo_81 pH hk_81 hn_lz_81 K
    have hb_mo_cg := smo_81.bcg
    have hb_mo_lz := smo_81.blz
    have hb_mo_ty := smo_81.bty
    have hb_mo_he := smo_81.bhe
    have hb_mo_cn := smo_81.bcn
    have hb_mo_n := smo_81.bn
    have hb_mo_mn := smo_81.bmn
    refine q_iload dX11_formatArgument_81 rfl ?_
    refine q_aload_n (by first | assumption | omega | decide | (rw [q_R0e]; omega)) dX11_formatArgument_83 rfl ?_
    refine q_getf (k := 1) (v := .ref (216)) kC_X11 kL_X11_9 rfl (by decide) dX11_formatArgument_84 smo_81.c0 rfl ?_
    refine q_iconst (v := 0) dX11_formatArgument_87 rfl ?_
    refine q_ialdN (j := 0) (f := al) dX11_formatArgument_88 smo_81.c1 (by omega) (by decide) ?_
    rw [smo_81.en]
    change q_W _ _ _ _ _ _ _ _ _ _ [.int (nI (n)), .int (nI (k))] _
    refine q_icmp_ge 121 dX11_formatArgument_89 (by decide) (fun b89 => ?_) (fun b89 => ?_)
    · have b89 := (nI_leI (a := n) (b := k) (by omega) (by omega)).mp b89
      exact absurd b89 (by omega)
    · have b89 : ¬ (n ≤ k) := fun q => b89 ((nI_leI (a := n) (b := k) (by omega) (by omega)).mpr q)
      refine q_iload_n dX11_formatArgument_92 rfl ?_
      refine q_iload dX11_formatArgument_93 rfl ?_
      refine q_ishr dX11_formatArgument_95 ?_
      refine q_iconst (v := 1) dX11_formatArgument_96 rfl ?_
      refine q_iand dX11_formatArgument_97 ?_
      refine q_iconst (v := 1) dX11_formatArgument_98 rfl ?_
      refine q_icmp_ne 115 dX11_formatArgument_99 (by decide) (fun b99 => ?_) (fun b99 => ?_)
      · refine q_iinc (x := nI (k)) (v := nI (k + 1)) dX11_formatArgument_115 rfl (nI_add _ 1) rfl ?_
        change q_W _ _ _ _ _ _ _ _ _ [.ref (215), q_u, q_u, .int (x_mo_attackers al n (x_pl n al xid - 1)), .int (nI (k + 1))] [] _
        refine q_goto 81 dX11_formatArgument_118 (by decide) ?_
        change q_W _ _ _ _ _ _ _ _ _ [.ref (215), q_u, q_u, .int (x_mo_attackers al n (x_pl n al xid - 1)), .int (nI (k + 1))] [] _
        exact ih (k + 1) ln_81 lz_81 hh smo_81 pH (by omega) (by first | omega | (split <;> omega)) (fun r81_0 r81_1 e9 => K r81_0 r81_1 (by simp only [x_mo_formatArgument_81, if_neg b99]; exact e9))
      · refine q_aload_n (by first | assumption | omega | decide | (rw [q_R0e]; omega)) dX11_formatArgument_102 rfl ?_
        refine q_bipush (v := 60) dX11_formatArgument_103 rfl ?_
        refine q_aload_n (by first | assumption | omega | decide | (rw [q_R0e]; omega)) dX11_formatArgument_105 rfl ?_
        refine q_iload dX11_formatArgument_106 rfl ?_
        refine q_iconst (v := 0) dX11_formatArgument_108 rfl ?_
        refine q_invV (mc' := 0) (ms' := 0) (d' := d - 1) (as := [.int (nI (k)), .int (0)]) dX11_formatArgument_109 kM_X11_a kL_X11_53 kI_X11_a kS_X11_a rfl (kC_X11.1) smo_81.c0 rfl rfl (Nat.le_of_ble_eq_true rfl) (by omega) (by decide) (by omega) (by omega) (e_mo_a (d := d - 1) smo_81 k 0 (by omega) (by omega) (by omega)) (q_kR ?_) q_xR
        change q_W _ _ _ _ _ _ _ _ 112 [.ref (215), q_u, q_u, .int (x_mo_attackers al n (x_pl n al xid - 1)), .int (nI (k))] [.int (al (7 + 3 * k + 0)), .int (60), .ref (215)] _
        have g14 := z_dg4 (x := al (7 + 3 * k + 0)) (hnid _ (by omega))
        refine q_invV (mc' := 0) (ms' := 0) (d' := d - 1) (as := [.int (60), .int (al (7 + 3 * k + 0))]) dX11_formatArgument_112 kM_X11_writesBehind kL_X11_229 kI_X11_writesBehind kS_X11_writesBehind rfl (kC_X11.1) smo_81.c0 rfl rfl (Nat.le_of_ble_eq_true rfl) (by omega) (by decide) (by omega) (by omega) (e_mo_writesBehind (d := d - 1) smo_81 60 (al (7 + 3 * k + 0)) (hnid _ (by omega)) (by omega) (by omega)) (q_kC (fun h15 hB => ?_)) q_xC
        obtain ⟨t15_0, pp15⟩ := hB
        have smo15 : z_Mo h15 215 (if x_th n al xid then 0 else 1) al cg sv rs y3_ac y3_rj y3_ro ad bf (x_wr (upd ln_81 lz_81 (z_c16 60)) (lz_81 + 1) ((al (7 + 3 * k + 0)).toNatClampNeg)) (lz_81 + 1 + sb_dg ((al (7 + 3 * k + 0)).toNatClampNeg)) ip ty he er ea fa cm cn n mn := t15_0
        have p15 := pH.trans (pp15.wide (by omega) (by omega))
        have hb_mo_cg := smo15.bcg
        have hb_mo_lz := smo15.blz
        have hb_mo_ty := smo15.bty
        have hb_mo_he := smo15.bhe
        have hb_mo_cn := smo15.bcn
        have hb_mo_n := smo15.bn
        have hb_mo_mn := smo15.bmn
        change q_W _ _ _ _ _ _ _ _ 115 [.ref (215), q_u, q_u, .int (x_mo_attackers al n (x_pl n al xid - 1)), .int (nI (k))] [] _
        refine q_iinc (x := nI (k)) (v := nI (k + 1)) dX11_formatArgument_115 rfl (nI_add _ 1) rfl ?_
        change q_W _ _ _ _ _ _ _ _ _ [.ref (215), q_u, q_u, .int (x_mo_attackers al n (x_pl n al xid - 1)), .int (nI (k + 1))] [] _
        refine q_goto 81 dX11_formatArgument_118 (by decide) ?_
        change q_W _ _ _ _ _ _ _ _ _ [.ref (215), q_u, q_u, .int (x_mo_attackers al n (x_pl n al xid - 1)), .int (nI (k + 1))] [] _
        exact ih (k + 1) (x_wr (upd ln_81 lz_81 (z_c16 60)) (lz_81 + 1) ((al (7 + 3 * k + 0)).toNatClampNeg)) (lz_81 + 1 + sb_dg ((al (7 + 3 * k + 0)).toNatClampNeg)) h15 smo15 p15 (by omega) (by first | omega | (split <;> omega)) (fun r81_0 r81_1 e9 => K r81_0 r81_1 (by simp only [x_mo_formatArgument_81, if_pos b99]; exact e9))
def x_mo_formatArgument (al : Nat → Int32) (ac : Int32) (rj : Int32) (ro : Nat → Int32) (ln : Nat → Int32) (lz : Nat) (n : Nat) (xid : Int32) : (Int32) × (Int32) × (Int32) × (Int32) × (Nat → Int32) × (Nat → Int32) × (Nat) := (if x_th n al xid then (match x_mo_labelsAll al n ro with | (y3_ac, y3_rj, y3_ro) => (match x_mo_formatArgument_81 al n xid n 0 (upd (upd (x_wr (upd (x_wr (upd (x_wr ln 0 ((xid).toNatClampNeg)) (0 + sb_dg ((xid).toNatClampNeg)) (z_c16 40)) (0 + sb_dg ((xid).toNatClampNeg) + 1) ((x_mo_strength al (x_pl n al xid - 1)).toNatClampNeg)) (0 + sb_dg ((xid).toNatClampNeg) + 1 + sb_dg ((x_mo_strength al (x_pl n al xid - 1)).toNatClampNeg)) (z_c16 47)) (0 + sb_dg ((xid).toNatClampNeg) + 1 + sb_dg ((x_mo_strength al (x_pl n al xid - 1)).toNatClampNeg) + 1) ((al (7 + 3 * (x_pl n al xid - 1) + 1)).toNatClampNeg)) (0 + sb_dg ((xid).toNatClampNeg) + 1 + sb_dg ((x_mo_strength al (x_pl n al xid - 1)).toNatClampNeg) + 1 + sb_dg ((al (7 + 3 * (x_pl n al xid - 1) + 1)).toNatClampNeg)) (z_c16 41)) (0 + sb_dg ((xid).toNatClampNeg) + 1 + sb_dg ((x_mo_strength al (x_pl n al xid - 1)).toNatClampNeg) + 1 + sb_dg ((al (7 + 3 * (x_pl n al xid - 1) + 1)).toNatClampNeg) + 1) (z_c16 (x_mo_labelOf y3_ac y3_rj (x_pl n al xid - 1)))) (0 + sb_dg ((xid).toNatClampNeg) + 1 + sb_dg ((x_mo_strength al (x_pl n al xid - 1)).toNatClampNeg) + 1 + sb_dg ((al (7 + 3 * (x_pl n al xid - 1) + 1)).toNatClampNeg) + 1 + 1) with | (a16_0, a16_1) => (nI (a16_1), (if x_th n al xid then 0 else 1), y3_ac, y3_rj, y3_ro, a16_0, a16_1))) else (0, (if x_th n al xid then 0 else 1), ac, rj, ro, ln, lz))
set_option maxRecDepth 100000 in
set_option maxHeartbeats 8000000 in
theorem e_mo_formatArgument {g : q_G} {h : q_H} {d : Nat} {th : Int32} {al : Nat → Int32} {cg : Nat} {sv : Bool} {rs : Int32} {ac : Int32} {rj : Int32} {ro : Nat → Int32} {ad : Nat → Int32} {bf : Nat → Int32} {ln : Nat → Int32} {lz : Nat} {ip : Nat → Int32} {ty : Nat} {he : Nat} {er : Int32} {ea : Int32} {fa : Int32} {cm : Nat → Int32} {cn : Nat} {n : Nat} {mn : Nat} (smo : z_Mo h 215 th al cg sv rs ac rj ro ad bf ln lz ip ty he er ea fa cm cn n mn)  (xid : Int32) (hnx : x_th n al xid = true → ∃ m : Nat, m < 10000 ∧ xid = nI m) (hnid : ∀ j, j < n → ∃ m : Nat, m < 10000 ∧ al (7 + 3 * j + 0) = nI m) (hnwt : ∀ j, j < n → ∃ m : Nat, m < 10000 ∧ al (7 + 3 * j + 1) = nI m) (hnst : ∀ j, j < n → ∃ m : Nat, m < 10000 ∧ x_mo_strength al j = nI m)  (hd : 7 ≤ d) : q_Spec g mX11_formatArgument d 0 0 [.ref (215), .int (xid)] h (q_chg (.inl (some (.int (x_mo_formatArgument al ac rj ro ln lz n xid).1))) (fun h1 => z_Mo h1 215 ((x_mo_formatArgument al ac rj ro ln lz n xid).2.1) al cg sv rs ((x_mo_formatArgument al ac rj ro ln lz n xid).2.2.1) ((x_mo_formatArgument al ac rj ro ln lz n xid).2.2.2.1) ((x_mo_formatArgument al ac rj ro ln lz n xid).2.2.2.2.1) ad bf ((x_mo_formatArgument al ac rj ro ln lz n xid).2.2.2.2.2.1) ((x_mo_formatArgument al ac rj ro ln lz n xid).2.2.2.2.2.2) ip ty he er ea fa cm cn n mn ∧ q_same h h1 215 8)) := by
  have hb_mo_cg := smo.bcg
  have hb_mo_lz := smo.blz
  have hb_mo_ty := smo.bty
  have hb_mo_he := smo.bhe
  have hb_mo_cn := smo.bcn
  have hb_mo_n := smo.bn
  have hb_mo_mn := smo.bmn
  have ho_mo_cg := smo.bcg
  have ho_mo_lz := smo.blz
  have ho_mo_ty := smo.bty
  have ho_mo_he := smo.bhe
  have ho_mo_cn := smo.bcn
  have ho_mo_n := smo.bn
  have ho_mo_mn := smo.bmn
  have p0 : q_same h h 215 8 := q_same.rfl'
  refine q_enter (by decide +kernel) rfl rfl (Nat.le_of_ble_eq_true rfl) (fun hz => ?_)
  change q_W _ _ _ _ _ _ _ _ _ [.ref (215), .int (xid), q_u, q_u, q_u] [] _
  refine q_aload_n (by first | assumption | omega | decide | (rw [q_R0e]; omega)) dX11_formatArgument_0 rfl ?_
  refine q_aload_n (by first | assumption | omega | decide | (rw [q_R0e]; omega)) dX11_formatArgument_1 rfl ?_
  refine q_iload_n dX11_formatArgument_2 rfl ?_
  refine q_invV (mc' := 0) (ms' := 0) (d' := d - 1) (as := [.int (xid)]) dX11_formatArgument_3 kM_X11_isThere kL_X11_141 kI_X11_isThere kS_X11_isThere rfl (kC_X11.1) smo.c0 rfl rfl (Nat.le_of_ble_eq_true rfl) (by omega) (by decide) (by omega) (by omega) (e_isThere (d := d - 1) smo xid (by omega)) (q_kR ?_) q_xR
  change q_W _ _ _ _ _ _ _ _ 6 [.ref (215), .int (xid), q_u, q_u, q_u] [.int (z_b (x_th n al xid)), .ref (215)] _
  refine q_invV (mc' := 0) (ms' := 0) (d' := d - 1) (as := [.int (z_b (x_th n al xid))]) dX11_formatArgument_6 kM_X11_isFine kL_X11_181 kI_X11_isFine kS_X11_isFine rfl (kC_X11.1) smo.c0 rfl rfl (Nat.le_of_ble_eq_true rfl) (by omega) (by decide) (by omega) (by omega) (e_isFine (d := d - 1) smo (xb := (x_th n al xid)) (by omega)) (q_kC (fun h1 hB => ?_)) q_xC
  obtain ⟨t1_0, pp1⟩ := hB
  have smo1 : z_Mo h1 215 (if x_th n al xid then 0 else 1) al cg sv rs ac rj ro ad bf ln lz ip ty he er ea fa cm cn n mn := t1_0
  have p1 := p0.trans (pp1.wide (by omega) (by omega))
  have hb_mo_cg := smo1.bcg
  have hb_mo_lz := smo1.blz
  have hb_mo_ty := smo1.bty
  have hb_mo_he := smo1.bhe
  have hb_mo_cn := smo1.bcn
  have hb_mo_n := smo1.bn
  have hb_mo_mn := smo1.bmn
  change q_W _ _ _ _ _ _ _ _ 9 [.ref (215), .int (xid), q_u, q_u, q_u] [.int (z_b (x_th n al xid))] _
  refine q_if_ne 14 dX11_formatArgument_9 (by decide) (fun b9 => ?_) (fun b9 => ?_)
  · have b9 := z_b1 b9
    have fb9 : 0 < x_pl n al xid := z_th b9
    refine q_aload_n (by first | assumption | omega | decide | (rw [q_R0e]; omega)) dX11_formatArgument_14 rfl ?_
    refine q_iload_n dX11_formatArgument_15 rfl ?_
    have g2 : x_pl n al xid ≤ n := x_pl_le
    refine q_invV (mc' := 0) (ms' := 0) (d' := d - 1) (as := [.int (xid)]) dX11_formatArgument_16 kM_X11_place kL_X11_57 kI_X11_place kS_X11_place rfl (kC_X11.1) smo1.c0 rfl rfl (Nat.le_of_ble_eq_true rfl) (by omega) (by decide) (by omega) (by omega) (e_placeP (d := d - 1) smo1 xid (by omega) (by omega)) (q_kR ?_) q_xR
    change q_W _ _ _ _ _ _ _ _ 19 [.ref (215), .int (xid), q_u, q_u, q_u] [.int (nI (x_pl n al xid - 1))] _
    refine q_istore_n dX11_formatArgument_19 (by decide) rfl ?_
    change q_W _ _ _ _ _ _ _ _ _ [.ref (215), .int (xid), .int (nI (x_pl n al xid - 1)), q_u, q_u] [] _
    refine q_aload_n (by first | assumption | omega | decide | (rw [q_R0e]; omega)) dX11_formatArgument_20 rfl ?_
    refine q_iload_n dX11_formatArgument_21 rfl ?_
    refine q_invV (mc' := 0) (ms' := 0) (d' := d - 1) (as := [.int (nI (x_pl n al xid - 1))]) dX11_formatArgument_22 kM_X11_attackers kL_X11_80 kI_X11_attackers kS_X11_attackers rfl (kC_X11.1) smo1.c0 rfl rfl (Nat.le_of_ble_eq_true rfl) (by omega) (by decide) (by omega) (by omega) (e_mo_attackers (d := d - 1) smo1 (x_pl n al xid - 1) (by omega) (by omega)) (q_kR ?_) q_xR
    change q_W _ _ _ _ _ _ _ _ 25 [.ref (215), .int (xid), .int (nI (x_pl n al xid - 1)), q_u, q_u] [.int (x_mo_attackers al n (x_pl n al xid - 1))] _
    refine q_istore_n dX11_formatArgument_25 (by decide) rfl ?_
    change q_W _ _ _ _ _ _ _ _ _ [.ref (215), .int (xid), .int (nI (x_pl n al xid - 1)), .int (x_mo_attackers al n (x_pl n al xid - 1)), q_u] [] _
    refine q_aload_n (by first | assumption | omega | decide | (rw [q_R0e]; omega)) dX11_formatArgument_26 rfl ?_
    rcases x3 : x_mo_labelsAll al n ro with ⟨y3_ac, y3_rj, y3_ro⟩
    have e9 := e_mo_labelsAll (g := g) (h := h1) (d := d - 1) smo1 (by omega)
    rw [x3] at e9
    refine q_invV (mc' := 0) (ms' := 0) (d' := d - 1) (as := []) dX11_formatArgument_27 kM_X11_labelsAll kL_X11_191 kI_X11_labelsAll kS_X11_labelsAll rfl (kC_X11.1) smo1.c0 rfl rfl (Nat.le_of_ble_eq_true rfl) (by omega) (by decide) (by omega) (by omega) (e9) (q_kC (fun h4 hB => ?_)) q_xC
    obtain ⟨t4_0, pp4⟩ := hB
    have smo4 := t4_0
    have p4 := p1.trans (pp4.wide (by omega) (by omega))
    have hb_mo_cg := smo4.bcg
    have hb_mo_lz := smo4.blz
    have hb_mo_ty := smo4.bty
    have hb_mo_he := smo4.bhe
    have hb_mo_cn := smo4.bcn
    have hb_mo_n := smo4.bn
    have hb_mo_mn := smo4.bmn
    change q_W _ _ _ _ _ _ _ _ 30 [.ref (215), .int (xid), .int (nI (x_pl n al xid - 1)), .int (x_mo_attackers al n (x_pl n al xid - 1)), q_u] [] _
    refine q_aload_n (by first | assumption | omega | decide | (rw [q_R0e]; omega)) dX11_formatArgument_30 rfl ?_
    refine q_iconst (v := 0) dX11_formatArgument_31 rfl ?_
    refine q_putf (k := 11) kC_X11 kL_X11_220 rfl (by decide) rfl dX11_formatArgument_32 smo4.c0 (Nat.le_of_ble_eq_true rfl) ⟨rfl, rfl⟩ rfl ?_
    refine z_genW (B := fun H => z_Mo H 215 (if x_th n al xid then 0 else 1) al cg sv rs y3_ac y3_rj y3_ro ad bf ln 0 ip ty he er ea fa cm cn n mn ∧ q_same h H 215 8) ⟨z_Mo.put0 smo4 (cg' := cg) (sv' := sv) (lz' := 0) (ty' := ty) (he' := he) (cn' := cn) (hbcg := by first | omega | (split <;> omega)) (hblz := by first | omega | (split <;> omega)) (hbty := by first | omega | (split <;> omega)) (hbhe := by first | omega | (split <;> omega)) (hbcn := by first | omega | (split <;> omega)), p4.trans (q_same.set (by omega) (by omega))⟩ (fun h5 hB => ?_)
    obtain ⟨smo5, p5⟩ := hB
    have hb_mo_cg := smo5.bcg
    have hb_mo_ty := smo5.bty
    have hb_mo_he := smo5.bhe
    have hb_mo_cn := smo5.bcn
    have hb_mo_n := smo5.bn
    have hb_mo_mn := smo5.bmn
    refine q_aload_n (by first | assumption | omega | decide | (rw [q_R0e]; omega)) dX11_formatArgument_35 rfl ?_
    refine q_iload_n dX11_formatArgument_36 rfl ?_
    have g6 := z_dg4 (x := xid) (hnx (by with_reducible assumption))
    refine q_invV (mc' := 0) (ms' := 0) (d' := d - 1) (as := [.int (xid)]) dX11_formatArgument_37 kM_X11_writesNumber kL_X11_223 kI_X11_writesNumber kS_X11_writesNumber rfl (kC_X11.1) smo5.c0 rfl rfl (Nat.le_of_ble_eq_true rfl) (by omega) (by decide) (by omega) (by omega) (e_wnI (d := d - 1) smo5 (hnx (by with_reducible assumption)) (by omega) (by omega)) (q_kC (fun h7 hB => ?_)) q_xC
    obtain ⟨t7_0, pp7⟩ := hB
    have smo7 : z_Mo h7 215 (if x_th n al xid then 0 else 1) al cg sv rs y3_ac y3_rj y3_ro ad bf (x_wr ln 0 ((xid).toNatClampNeg)) (0 + sb_dg ((xid).toNatClampNeg)) ip ty he er ea fa cm cn n mn := t7_0
    have p7 := p5.trans (pp7.wide (by omega) (by omega))
    have hb_mo_cg := smo7.bcg
    have hb_mo_lz := smo7.blz
    have hb_mo_ty := smo7.bty
    have hb_mo_he := smo7.bhe
    have hb_mo_cn := smo7.bcn
    have hb_mo_n := smo7.bn
    have hb_mo_mn := smo7.bmn
    change q_W _ _ _ _ _ _ _ _ 40 [.ref (215), .int (xid), .int (nI (x_pl n al xid - 1)), .int (x_mo_attackers al n (x_pl n al xid - 1)), q_u] [] _
    refine q_aload_n (by first | assumption | omega | decide | (rw [q_R0e]; omega)) dX11_formatArgument_40 rfl ?_
    refine q_bipush (v := 40) dX11_formatArgument_41 rfl ?_
    refine q_aload_n (by first | assumption | omega | decide | (rw [q_R0e]; omega)) dX11_formatArgument_43 rfl ?_
    refine q_iload_n dX11_formatArgument_44 rfl ?_
    refine q_invV (mc' := 0) (ms' := 0) (d' := d - 1) (as := [.int (nI (x_pl n al xid - 1))]) dX11_formatArgument_45 kM_X11_strength kL_X11_65 kI_X11_strength kS_X11_strength rfl (kC_X11.1) smo7.c0 rfl rfl (Nat.le_of_ble_eq_true rfl) (by omega) (by decide) (by omega) (by omega) (e_mo_strength (d := d - 1) smo7 (x_pl n al xid - 1) (by omega) (by omega)) (q_kR ?_) q_xR
    change q_W _ _ _ _ _ _ _ _ 48 [.ref (215), .int (xid), .int (nI (x_pl n al xid - 1)), .int (x_mo_attackers al n (x_pl n al xid - 1)), q_u] [.int (x_mo_strength al (x_pl n al xid - 1)), .int (40), .ref (215)] _
    have g8 := z_dg4 (x := x_mo_strength al (x_pl n al xid - 1)) (hnst _ (by omega))
    refine q_invV (mc' := 0) (ms' := 0) (d' := d - 1) (as := [.int (40), .int (x_mo_strength al (x_pl n al xid - 1))]) dX11_formatArgument_48 kM_X11_writesBehind kL_X11_229 kI_X11_writesBehind kS_X11_writesBehind rfl (kC_X11.1) smo7.c0 rfl rfl (Nat.le_of_ble_eq_true rfl) (by omega) (by decide) (by omega) (by omega) (e_mo_writesBehind (d := d - 1) smo7 40 (x_mo_strength al (x_pl n al xid - 1)) (hnst _ (by omega)) (by omega) (by omega)) (q_kC (fun h9 hB => ?_)) q_xC
    obtain ⟨t9_0, pp9⟩ := hB
    have smo9 : z_Mo h9 215 (if x_th n al xid then 0 else 1) al cg sv rs y3_ac y3_rj y3_ro ad bf (x_wr (upd (x_wr ln 0 ((xid).toNatClampNeg)) (0 + sb_dg ((xid).toNatClampNeg)) (z_c16 40)) (0 + sb_dg ((xid).toNatClampNeg) + 1) ((x_mo_strength al (x_pl n al xid - 1)).toNatClampNeg)) (0 + sb_dg ((xid).toNatClampNeg) + 1 + sb_dg ((x_mo_strength al (x_pl n al xid - 1)).toNatClampNeg)) ip ty he er ea fa cm cn n mn := t9_0
    have p9 := p7.trans (pp9.wide (by omega) (by omega))
    have hb_mo_cg := smo9.bcg
    have hb_mo_lz := smo9.blz
    have hb_mo_ty := smo9.bty
    have hb_mo_he := smo9.bhe
    have hb_mo_cn := smo9.bcn
    have hb_mo_n := smo9.bn
    have hb_mo_mn := smo9.bmn
    change q_W _ _ _ _ _ _ _ _ 51 [.ref (215), .int (xid), .int (nI (x_pl n al xid - 1)), .int (x_mo_attackers al n (x_pl n al xid - 1)), q_u] [] _
    refine q_aload_n (by first | assumption | omega | decide | (rw [q_R0e]; omega)) dX11_formatArgument_51 rfl ?_
    refine q_bipush (v := 47) dX11_formatArgument_52 rfl ?_
    refine q_aload_n (by first | assumption | omega | decide | (rw [q_R0e]; omega)) dX11_formatArgument_54 rfl ?_
    refine q_iload_n dX11_formatArgument_55 rfl ?_
    refine q_iconst (v := 1) dX11_formatArgument_56 rfl ?_
    refine q_invV (mc' := 0) (ms' := 0) (d' := d - 1) (as := [.int (nI (x_pl n al xid - 1)), .int (1)]) dX11_formatArgument_57 kM_X11_a kL_X11_53 kI_X11_a kS_X11_a rfl (kC_X11.1) smo9.c0 rfl rfl (Nat.le_of_ble_eq_true rfl) (by omega) (by decide) (by omega) (by omega) (e_mo_a (d := d - 1) smo9 (x_pl n al xid - 1) 1 (by omega) (by omega) (by omega)) (q_kR ?_) q_xR
    change q_W _ _ _ _ _ _ _ _ 60 [.ref (215), .int (xid), .int (nI (x_pl n al xid - 1)), .int (x_mo_attackers al n (x_pl n al xid - 1)), q_u] [.int (al (7 + 3 * (x_pl n al xid - 1) + 1)), .int (47), .ref (215)] _
    have g10 := z_dg4 (x := al (7 + 3 * (x_pl n al xid - 1) + 1)) (hnwt _ (by omega))
    refine q_invV (mc' := 0) (ms' := 0) (d' := d - 1) (as := [.int (47), .int (al (7 + 3 * (x_pl n al xid - 1) + 1))]) dX11_formatArgument_60 kM_X11_writesBehind kL_X11_229 kI_X11_writesBehind kS_X11_writesBehind rfl (kC_X11.1) smo9.c0 rfl rfl (Nat.le_of_ble_eq_true rfl) (by omega) (by decide) (by omega) (by omega) (e_mo_writesBehind (d := d - 1) smo9 47 (al (7 + 3 * (x_pl n al xid - 1) + 1)) (hnwt _ (by omega)) (by omega) (by omega)) (q_kC (fun h11 hB => ?_)) q_xC
    obtain ⟨t11_0, pp11⟩ := hB
    have smo11 : z_Mo h11 215 (if x_th n al xid then 0 else 1) al cg sv rs y3_ac y3_rj y3_ro ad bf (x_wr (upd (x_wr (upd (x_wr ln 0 ((xid).toNatClampNeg)) (0 + sb_dg ((xid).toNatClampNeg)) (z_c16 40)) (0 + sb_dg ((xid).toNatClampNeg) + 1) ((x_mo_strength al (x_pl n al xid - 1)).toNatClampNeg)) (0 + sb_dg ((xid).toNatClampNeg) + 1 + sb_dg ((x_mo_strength al (x_pl n al xid - 1)).toNatClampNeg)) (z_c16 47)) (0 + sb_dg ((xid).toNatClampNeg) + 1 + sb_dg ((x_mo_strength al (x_pl n al xid - 1)).toNatClampNeg) + 1) ((al (7 + 3 * (x_pl n al xid - 1) + 1)).toNatClampNeg)) (0 + sb_dg ((xid).toNatClampNeg) + 1 + sb_dg ((x_mo_strength al (x_pl n al xid - 1)).toNatClampNeg) + 1 + sb_dg ((al (7 + 3 * (x_pl n al xid - 1) + 1)).toNatClampNeg)) ip ty he er ea fa cm cn n mn := t11_0
    have p11 := p9.trans (pp11.wide (by omega) (by omega))
    have hb_mo_cg := smo11.bcg
    have hb_mo_lz := smo11.blz
    have hb_mo_ty := smo11.bty
    have hb_mo_he := smo11.bhe
    have hb_mo_cn := smo11.bcn
    have hb_mo_n := smo11.bn
    have hb_mo_mn := smo11.bmn
    change q_W _ _ _ _ _ _ _ _ 63 [.ref (215), .int (xid), .int (nI (x_pl n al xid - 1)), .int (x_mo_attackers al n (x_pl n al xid - 1)), q_u] [] _
    refine q_aload_n (by first | assumption | omega | decide | (rw [q_R0e]; omega)) dX11_formatArgument_63 rfl ?_
    refine q_bipush (v := 41) dX11_formatArgument_64 rfl ?_
    refine q_invV (mc' := 0) (ms' := 0) (d' := d - 1) (as := [.int (41)]) dX11_formatArgument_66 kM_X11_writes kL_X11_226 kI_X11_writes kS_X11_writes rfl (kC_X11.1) smo11.c0 rfl rfl (Nat.le_of_ble_eq_true rfl) (by omega) (by decide) (by omega) (by omega) (e_writes (d := d - 1) smo11 41 (by omega) (by omega)) (q_kC (fun h12 hB => ?_)) q_xC
    obtain ⟨t12_0, pp12⟩ := hB
    have smo12 : z_Mo h12 215 (if x_th n al xid then 0 else 1) al cg sv rs y3_ac y3_rj y3_ro ad bf (upd (x_wr (upd (x_wr (upd (x_wr ln 0 ((xid).toNatClampNeg)) (0 + sb_dg ((xid).toNatClampNeg)) (z_c16 40)) (0 + sb_dg ((xid).toNatClampNeg) + 1) ((x_mo_strength al (x_pl n al xid - 1)).toNatClampNeg)) (0 + sb_dg ((xid).toNatClampNeg) + 1 + sb_dg ((x_mo_strength al (x_pl n al xid - 1)).toNatClampNeg)) (z_c16 47)) (0 + sb_dg ((xid).toNatClampNeg) + 1 + sb_dg ((x_mo_strength al (x_pl n al xid - 1)).toNatClampNeg) + 1) ((al (7 + 3 * (x_pl n al xid - 1) + 1)).toNatClampNeg)) (0 + sb_dg ((xid).toNatClampNeg) + 1 + sb_dg ((x_mo_strength al (x_pl n al xid - 1)).toNatClampNeg) + 1 + sb_dg ((al (7 + 3 * (x_pl n al xid - 1) + 1)).toNatClampNeg)) (z_c16 41)) (0 + sb_dg ((xid).toNatClampNeg) + 1 + sb_dg ((x_mo_strength al (x_pl n al xid - 1)).toNatClampNeg) + 1 + sb_dg ((al (7 + 3 * (x_pl n al xid - 1) + 1)).toNatClampNeg) + 1) ip ty he er ea fa cm cn n mn := t12_0
    have p12 := p11.trans (pp12.wide (by omega) (by omega))
    have hb_mo_cg := smo12.bcg
    have hb_mo_lz := smo12.blz
    have hb_mo_ty := smo12.bty
    have hb_mo_he := smo12.bhe
    have hb_mo_cn := smo12.bcn
    have hb_mo_n := smo12.bn
    have hb_mo_mn := smo12.bmn
    change q_W _ _ _ _ _ _ _ _ 69 [.ref (215), .int (xid), .int (nI (x_pl n al xid - 1)), .int (x_mo_attackers al n (x_pl n al xid - 1)), q_u] [] _
    refine q_aload_n (by first | assumption | omega | decide | (rw [q_R0e]; omega)) dX11_formatArgument_69 rfl ?_
    refine q_aload_n (by first | assumption | omega | decide | (rw [q_R0e]; omega)) dX11_formatArgument_70 rfl ?_
    refine q_iload_n dX11_formatArgument_71 rfl ?_
    refine q_invV (mc' := 0) (ms' := 0) (d' := d - 1) (as := [.int (nI (x_pl n al xid - 1))]) dX11_formatArgument_72 kM_X11_labelOf kL_X11_194 kI_X11_labelOf kS_X11_labelOf rfl (kC_X11.1) smo12.c0 rfl rfl (Nat.le_of_ble_eq_true rfl) (by omega) (by decide) (by omega) (by omega) (e_mo_labelOf (d := d - 1) smo12 (x_pl n al xid - 1) (by omega) (by omega)) (q_kR ?_) q_xR
    change q_W _ _ _ _ _ _ _ _ 75 [.ref (215), .int (xid), .int (nI (x_pl n al xid - 1)), .int (x_mo_attackers al n (x_pl n al xid - 1)), q_u] [.int (x_mo_labelOf y3_ac y3_rj (x_pl n al xid - 1)), .ref (215)] _
    refine q_invV (mc' := 0) (ms' := 0) (d' := d - 1) (as := [.int (x_mo_labelOf y3_ac y3_rj (x_pl n al xid - 1))]) dX11_formatArgument_75 kM_X11_writes kL_X11_226 kI_X11_writes kS_X11_writes rfl (kC_X11.1) smo12.c0 rfl rfl (Nat.le_of_ble_eq_true rfl) (by omega) (by decide) (by omega) (by omega) (e_writes (d := d - 1) smo12 (x_mo_labelOf y3_ac y3_rj (x_pl n al xid - 1)) (by omega) (by omega)) (q_kC (fun h13 hB => ?_)) q_xC
    obtain ⟨t13_0, pp13⟩ := hB
    have smo13 : z_Mo h13 215 (if x_th n al xid then 0 else 1) al cg sv rs y3_ac y3_rj y3_ro ad bf (upd (upd (x_wr (upd (x_wr (upd (x_wr ln 0 ((xid).toNatClampNeg)) (0 + sb_dg ((xid).toNatClampNeg)) (z_c16 40)) (0 + sb_dg ((xid).toNatClampNeg) + 1) ((x_mo_strength al (x_pl n al xid - 1)).toNatClampNeg)) (0 + sb_dg ((xid).toNatClampNeg) + 1 + sb_dg ((x_mo_strength al (x_pl n al xid - 1)).toNatClampNeg)) (z_c16 47)) (0 + sb_dg ((xid).toNatClampNeg) + 1 + sb_dg ((x_mo_strength al (x_pl n al xid - 1)).toNatClampNeg) + 1) ((al (7 + 3 * (x_pl n al xid - 1) + 1)).toNatClampNeg)) (0 + sb_dg ((xid).toNatClampNeg) + 1 + sb_dg ((x_mo_strength al (x_pl n al xid - 1)).toNatClampNeg) + 1 + sb_dg ((al (7 + 3 * (x_pl n al xid - 1) + 1)).toNatClampNeg)) (z_c16 41)) (0 + sb_dg ((xid).toNatClampNeg) + 1 + sb_dg ((x_mo_strength al (x_pl n al xid - 1)).toNatClampNeg) + 1 + sb_dg ((al (7 + 3 * (x_pl n al xid - 1) + 1)).toNatClampNeg) + 1) (z_c16 (x_mo_labelOf y3_ac y3_rj (x_pl n al xid - 1)))) (0 + sb_dg ((xid).toNatClampNeg) + 1 + sb_dg ((x_mo_strength al (x_pl n al xid - 1)).toNatClampNeg) + 1 + sb_dg ((al (7 + 3 * (x_pl n al xid - 1) + 1)).toNatClampNeg) + 1 + 1) ip ty he er ea fa cm cn n mn := t13_0
    have p13 := p12.trans (pp13.wide (by omega) (by omega))
    have hb_mo_cg := smo13.bcg
    have hb_mo_lz := smo13.blz
    have hb_mo_ty := smo13.bty
    have hb_mo_he := smo13.bhe
    have hb_mo_cn := smo13.bcn
    have hb_mo_n := smo13.bn
    have hb_mo_mn := smo13.bmn
    change q_W _ _ _ _ _ _ _ _ 78 [.ref (215), .int (xid), .int (nI (x_pl n al xid - 1)), .int (x_mo_attackers al n (x_pl n al xid - 1)), q_u] [] _
    refine q_iconst (v := 0) dX11_formatArgument_78 rfl ?_
    refine q_istore dX11_formatArgument_79 (by decide) rfl ?_
    change q_W _ _ _ _ _ _ _ _ _ [.ref (215), .int (xid), .int (nI (x_pl n al xid - 1)), .int (x_mo_attackers al n (x_pl n al xid - 1)), .int (0)] [] _
    refine q_forget 1 ?_
    refine q_forget 2 ?_
    change q_W _ _ _ _ _ _ _ _ _ [.ref (215), q_u, q_u, .int (x_mo_attackers al n (x_pl n al xid - 1)), .int (0)] [] _
    refine l_mo_formatArgument_81 hnx hnid hnwt hnst ho_mo_cg ho_mo_ty ho_mo_he ho_mo_cn ho_mo_n ho_mo_mn fb9 g2 g6 g8 g10 (by omega) (by omega) (by omega) n 0 (upd (upd (x_wr (upd (x_wr (upd (x_wr ln 0 ((xid).toNatClampNeg)) (0 + sb_dg ((xid).toNatClampNeg)) (z_c16 40)) (0 + sb_dg ((xid).toNatClampNeg) + 1) ((x_mo_strength al (x_pl n al xid - 1)).toNatClampNeg)) (0 + sb_dg ((xid).toNatClampNeg) + 1 + sb_dg ((x_mo_strength al (x_pl n al xid - 1)).toNatClampNeg)) (z_c16 47)) (0 + sb_dg ((xid).toNatClampNeg) + 1 + sb_dg ((x_mo_strength al (x_pl n al xid - 1)).toNatClampNeg) + 1) ((al (7 + 3 * (x_pl n al xid - 1) + 1)).toNatClampNeg)) (0 + sb_dg ((xid).toNatClampNeg) + 1 + sb_dg ((x_mo_strength al (x_pl n al xid - 1)).toNatClampNeg) + 1 + sb_dg ((al (7 + 3 * (x_pl n al xid - 1) + 1)).toNatClampNeg)) (z_c16 41)) (0 + sb_dg ((xid).toNatClampNeg) + 1 + sb_dg ((x_mo_strength al (x_pl n al xid - 1)).toNatClampNeg) + 1 + sb_dg ((al (7 + 3 * (x_pl n al xid - 1) + 1)).toNatClampNeg) + 1) (z_c16 (x_mo_labelOf y3_ac y3_rj (x_pl n al xid - 1)))) (0 + sb_dg ((xid).toNatClampNeg) + 1 + sb_dg ((x_mo_strength al (x_pl n al xid - 1)).toNatClampNeg) + 1 + sb_dg ((al (7 + 3 * (x_pl n al xid - 1) + 1)).toNatClampNeg) + 1 + 1) h13 smo13 p13 (by omega) (by omega) (fun a16_0 a16_1 x16 hq16_1 h17 smo17 p17 => ?_)
    have hb_mo_cg := smo17.bcg
    have hb_mo_lz := smo17.blz
    have hb_mo_ty := smo17.bty
    have hb_mo_he := smo17.bhe
    have hb_mo_cn := smo17.bcn
    have hb_mo_n := smo17.bn
    have hb_mo_mn := smo17.bmn
    change q_W _ _ _ _ _ _ _ _ 121 [.ref (215), q_u, q_u, q_u, q_u] [] _
    refine q_aload_n (by first | assumption | omega | decide | (rw [q_R0e]; omega)) dX11_formatArgument_121 rfl ?_
    refine q_getf (k := 11) (v := .int (nI (a16_1))) kC_X11 kL_X11_220 rfl (by decide) dX11_formatArgument_122 smo17.c0 rfl ?_
    have hE : x_mo_formatArgument al ac rj ro ln lz n xid = (nI (a16_1), (if x_th n al xid then 0 else 1), y3_ac, y3_rj, y3_ro, a16_0, a16_1) := by simp only [x_mo_formatArgument, if_pos b9, x3, x16]
    rw [hE]
    exact q_ireturn dX11_formatArgument_125 rfl rfl (by omega) (by omega) ⟨rfl, smo17, p17⟩
  · have b9 := z_b0n b9
    have fb9 : x_pl n al xid = 0 := z_nth b9
    refine q_iconst (v := 0) dX11_formatArgument_12 rfl ?_
    have hE : x_mo_formatArgument al ac rj ro ln lz n xid = (0, (if x_th n al xid then 0 else 1), ac, rj, ro, ln, lz) := by simp only [x_mo_formatArgument, if_neg b9]
    rw [hE]
    exact q_ireturn dX11_formatArgument_13 rfl rfl (by omega) (by omega) ⟨rfl, smo1, p1⟩
def x_mo_formatDialogue_30 (al : Nat → Int32) : Nat → Nat → (Nat → Int32) → (Nat) → (Nat → Int32) × (Nat)
  | 0, _, ln_30, lz_30 => (ln_30, lz_30)
  | r + 1, k, ln_30, lz_30 => (if k ≤ 0 then (if k % 2 = 0 then x_mo_formatDialogue_30 al r (k + 1) (x_wr (upd ln_30 lz_30 (z_c16 112)) (lz_30 + 1) ((al (39 + k)).toNatClampNeg)) (lz_30 + 1 + sb_dg ((al (39 + k)).toNatClampNeg)) else x_mo_formatDialogue_30 al r (k + 1) (x_wr (upd ln_30 lz_30 (z_c16 111)) (lz_30 + 1) ((al (39 + k)).toNatClampNeg)) (lz_30 + 1 + sb_dg ((al (39 + k)).toNatClampNeg))) else (if k % 2 = 0 then x_mo_formatDialogue_30 al r (k + 1) (x_wr (upd (upd ln_30 lz_30 (z_c16 32)) (lz_30 + 1) (z_c16 112)) (lz_30 + 2) ((al (39 + k)).toNatClampNeg)) (lz_30 + 2 + sb_dg ((al (39 + k)).toNatClampNeg)) else x_mo_formatDialogue_30 al r (k + 1) (x_wr (upd (upd ln_30 lz_30 (z_c16 32)) (lz_30 + 1) (z_c16 111)) (lz_30 + 2) ((al (39 + k)).toNatClampNeg)) (lz_30 + 2 + sb_dg ((al (39 + k)).toNatClampNeg))))
set_option maxRecDepth 100000 in
set_option maxHeartbeats 8000000 in
theorem l_mo_formatDialogue_30 {g : q_G} {h : q_H} {d mc ms kc ks : Nat} {Q : q_O → q_H → Prop} {al : Nat → Int32} {cg : Nat} {sv : Bool} {rs : Int32} {ac : Int32} {rj : Int32} {ro : Nat → Int32} {ad : Nat → Int32} {bf : Nat → Int32} {ip : Nat → Int32} {ty : Nat} {he : Nat} {er : Int32} {ea : Int32} {fa : Int32} {cm : Nat → Int32} {cn : Nat} {n : Nat} {mn : Nat}   (hnmv : ∀ j, j < mn → ∃ m : Nat, m < 10000 ∧ al (39 + j) = nI m) (ho_mo_cg : cg ≤ 8) (ho_mo_ty : ty ≤ 60) (ho_mo_he : he ≤ 60) (ho_mo_cn : cn ≤ 61) (ho_mo_n : n ≤ 8) (ho_mo_mn : mn ≤ 12) (b7 : ¬ (mn ≤ 0))  (hd : 7 ≤ d) (hkc : kc + 0 ≤ mc) (hks : ks + 0 ≤ ms) : ∀ (r k : Nat) (ln_30 : Nat → Int32) (lz_30 : Nat) (hh : q_H) (smo_30 : z_Mo hh 215 0 al cg sv rs ac rj ro ad bf ln_30 lz_30 ip ty he er ea fa cm cn n mn) (pH : q_same h hh 215 8) (hk_30 : k + r = mn) (hn_lz_30 : lz_30 ≤ 6 * k) (K : ∀ (r30_0 : Nat → Int32) (r30_1 : Nat), x_mo_formatDialogue_30 al r k ln_30 lz_30 = (r30_0, r30_1) → r30_1 ≤ 6 * mn → ∀ h2, z_Mo h2 215 0 al cg sv rs ac rj ro ad bf r30_0 r30_1 ip ty he er ea fa cm cn n mn → q_same h h2 215 8 → q_W g mX11_formatDialogue d mc ms Q kc ks 82 [.ref (215), q_u] [] h2), q_W g mX11_formatDialogue d mc ms Q kc ks 30 [.ref (215), .int (nI (k))] [] hh := by
  intro r
  induction r with
  | zero =>
    intro k ln_30 lz_30 hh smo_30 pH hk_30 hn_lz_30 K
    have hb_mo_cg := smo_30.bcg
    have hb_mo_lz := smo_30.blz
    have hb_mo_ty := smo_30.bty
    have hb_mo_he := smo_30.bhe
    have hb_mo_cn := smo_30.bcn
    have hb_mo_n := smo_30.bn
    have hb_mo_mn := smo_30.bmn
    refine q_iload_n dX11_formatDialogue_30 rfl ?_
    refine q_aload_n (by first | assumption | omega | decide | (rw [q_R0e]; omega)) dX11_formatDialogue_31 rfl ?_
    refine q_getf (k := 1) (v := .ref (216)) kC_X11 kL_X11_9 rfl (by decide) dX11_formatDialogue_32 smo_30.c0 rfl ?_
    refine q_iconst (v := 3) dX11_formatDialogue_35 rfl ?_
    refine q_ialdN (j := 3) (f := al) dX11_formatDialogue_36 smo_30.c1 (by omega) (by decide) ?_
    rw [smo_30.emn]
    change q_W _ _ _ _ _ _ _ _ _ _ [.int (nI (mn)), .int (nI (k))] _
    refine q_icmp_ge 82 dX11_formatDialogue_37 (by decide) (fun b37 => ?_) (fun b37 => ?_)
    · have b37 := (nI_leI (a := mn) (b := k) (by omega) (by omega)).mp b37
      refine q_forget 1 ?_
      change q_W _ _ _ _ _ _ _ _ _ [.ref (215), q_u] [] _
      exact K ln_30 lz_30 (by simp only [x_mo_formatDialogue_30]) (by omega) hh smo_30 pH
    · have b37 : ¬ (mn ≤ k) := fun q => b37 ((nI_leI (a := mn) (b := k) (by omega) (by omega)).mpr q)
      exact absurd b37 (by omega)
  | succ r ih =>
    intro k ln_30 lz_30 hh smo_30 pH hk_30 hn_lz_30 K
    have hb_mo_cg := smo_30.bcg
    have hb_mo_lz := smo_30.blz
    have hb_mo_ty := smo_30.bty
    have hb_mo_he := smo_30.bhe
    have hb_mo_cn := smo_30.bcn
    have hb_mo_n := smo_30.bn
    have hb_mo_mn := smo_30.bmn
    refine q_iload_n dX11_formatDialogue_30 rfl ?_
    refine q_aload_n (by first | assumption | omega | decide | (rw [q_R0e]; omega)) dX11_formatDialogue_31 rfl ?_
    refine q_getf (k := 1) (v := .ref (216)) kC_X11 kL_X11_9 rfl (by decide) dX11_formatDialogue_32 smo_30.c0 rfl ?_
    refine q_iconst (v := 3) dX11_formatDialogue_35 rfl ?_
    refine q_ialdN (j := 3) (f := al) dX11_formatDialogue_36 smo_30.c1 (by omega) (by decide) ?_
    rw [smo_30.emn]
    change q_W _ _ _ _ _ _ _ _ _ _ [.int (nI (mn)), .int (nI (k))] _
    refine q_icmp_ge 82 dX11_formatDialogue_37 (by decide) (fun b37 => ?_) (fun b37 => ?_)
    · have b37 := (nI_leI (a := mn) (b := k) (by omega) (by omega)).mp b37
      exact absurd b37 (by omega)
    · have b37 : ¬ (mn ≤ k) := fun q => b37 ((nI_leI (a := mn) (b := k) (by omega) (by omega)).mpr q)
      refine q_iload_n dX11_formatDialogue_40 rfl ?_
      refine q_if_le 50 dX11_formatDialogue_41 (by decide) (fun b41 => ?_) (fun b41 => ?_)
      · have b41 := (nI_leI (a := k) (b := 0) (by omega) (by omega)).mp b41
        refine q_aload_n (by first | assumption | omega | decide | (rw [q_R0e]; omega)) dX11_formatDialogue_50 rfl ?_
        refine q_iload_n dX11_formatDialogue_51 rfl ?_
        refine q_iconst (v := 2) dX11_formatDialogue_52 rfl ?_
        refine q_iremN (a := k) (b := 2) (by omega) (by decide) (by decide) dX11_formatDialogue_53 ?_
        refine q_if_ne 62 dX11_formatDialogue_54 (by decide) (fun b54 => ?_) (fun b54 => ?_)
        · have b54 : ¬ (k % 2 = 0) := fun q => b54 ((nI_eq (a := k % 2) (b := 0) (by omega) (by omega)).mpr q)
          refine q_bipush (v := 111) dX11_formatDialogue_62 rfl ?_
          refine q_aload_n (by first | assumption | omega | decide | (rw [q_R0e]; omega)) dX11_formatDialogue_64 rfl ?_
          refine q_getf (k := 1) (v := .ref (216)) kC_X11 kL_X11_9 rfl (by decide) dX11_formatDialogue_65 smo_30.c0 rfl ?_
          refine q_bipush (v := 39) dX11_formatDialogue_68 rfl ?_
          refine q_iload_n dX11_formatDialogue_70 rfl ?_
          refine q_iaddN (a := 39) (b := k) dX11_formatDialogue_71 ?_
          change q_W _ _ _ _ _ _ _ _ _ _ [.int (nI (39 + k)), .ref (216), .int (111), .ref (215)] _
          refine q_ialdN (j := 39 + k) (f := al) dX11_formatDialogue_72 smo_30.c1 (by omega) (by decide) ?_
          change q_W _ _ _ _ _ _ _ _ _ _ [.int (al (39 + k)), .int (111), .ref (215)] _
          have g4 := z_dg4 (x := al (39 + k)) (hnmv _ (by omega))
          refine q_invV (mc' := 0) (ms' := 0) (d' := d - 1) (as := [.int (111), .int (al (39 + k))]) dX11_formatDialogue_73 kM_X11_writesBehind kL_X11_229 kI_X11_writesBehind kS_X11_writesBehind rfl (kC_X11.1) smo_30.c0 rfl rfl (Nat.le_of_ble_eq_true rfl) (by omega) (by decide) (by omega) (by omega) (e_mo_writesBehind (d := d - 1) smo_30 111 (al (39 + k)) (hnmv _ (by omega)) (by omega) (by omega)) (q_kC (fun h5 hB => ?_)) q_xC
          obtain ⟨t5_0, pp5⟩ := hB
          have smo5 : z_Mo h5 215 0 al cg sv rs ac rj ro ad bf (x_wr (upd ln_30 lz_30 (z_c16 111)) (lz_30 + 1) ((al (39 + k)).toNatClampNeg)) (lz_30 + 1 + sb_dg ((al (39 + k)).toNatClampNeg)) ip ty he er ea fa cm cn n mn := t5_0
          have p5 := pH.trans (pp5.wide (by omega) (by omega))
          have hb_mo_cg := smo5.bcg
          have hb_mo_lz := smo5.blz
          have hb_mo_ty := smo5.bty
          have hb_mo_he := smo5.bhe
          have hb_mo_cn := smo5.bcn
          have hb_mo_n := smo5.bn
          have hb_mo_mn := smo5.bmn
          change q_W _ _ _ _ _ _ _ _ 76 [.ref (215), .int (nI (k))] [] _
          refine q_iinc (x := nI (k)) (v := nI (k + 1)) dX11_formatDialogue_76 rfl (nI_add _ 1) rfl ?_
          change q_W _ _ _ _ _ _ _ _ _ [.ref (215), .int (nI (k + 1))] [] _
          refine q_goto 30 dX11_formatDialogue_79 (by decide) ?_
          change q_W _ _ _ _ _ _ _ _ _ [.ref (215), .int (nI (k + 1))] [] _
          exact ih (k + 1) (x_wr (upd ln_30 lz_30 (z_c16 111)) (lz_30 + 1) ((al (39 + k)).toNatClampNeg)) (lz_30 + 1 + sb_dg ((al (39 + k)).toNatClampNeg)) h5 smo5 p5 (by omega) (by first | omega | (split <;> omega)) (fun r30_0 r30_1 e9 => K r30_0 r30_1 (by simp only [x_mo_formatDialogue_30, if_pos b41, if_neg b54]; exact e9))
        · have b54 := (nI_eq (a := k % 2) (b := 0) (by omega) (by omega)).mp b54
          refine q_bipush (v := 112) dX11_formatDialogue_57 rfl ?_
          refine q_goto 64 dX11_formatDialogue_59 (by decide) ?_
          refine q_aload_n (by first | assumption | omega | decide | (rw [q_R0e]; omega)) dX11_formatDialogue_64 rfl ?_
          refine q_getf (k := 1) (v := .ref (216)) kC_X11 kL_X11_9 rfl (by decide) dX11_formatDialogue_65 smo_30.c0 rfl ?_
          refine q_bipush (v := 39) dX11_formatDialogue_68 rfl ?_
          refine q_iload_n dX11_formatDialogue_70 rfl ?_
          refine q_iaddN (a := 39) (b := k) dX11_formatDialogue_71 ?_
          change q_W _ _ _ _ _ _ _ _ _ _ [.int (nI (39 + k)), .ref (216), .int (112), .ref (215)] _
          refine q_ialdN (j := 39 + k) (f := al) dX11_formatDialogue_72 smo_30.c1 (by omega) (by decide) ?_
          change q_W _ _ _ _ _ _ _ _ _ _ [.int (al (39 + k)), .int (112), .ref (215)] _
          have g6 := z_dg4 (x := al (39 + k)) (hnmv _ (by omega))
          refine q_invV (mc' := 0) (ms' := 0) (d' := d - 1) (as := [.int (112), .int (al (39 + k))]) dX11_formatDialogue_73 kM_X11_writesBehind kL_X11_229 kI_X11_writesBehind kS_X11_writesBehind rfl (kC_X11.1) smo_30.c0 rfl rfl (Nat.le_of_ble_eq_true rfl) (by omega) (by decide) (by omega) (by omega) (e_mo_writesBehind (d := d - 1) smo_30 112 (al (39 + k)) (hnmv _ (by omega)) (by omega) (by omega)) (q_kC (fun h7 hB => ?_)) q_xC
          obtain ⟨t7_0, pp7⟩ := hB
          have smo7 : z_Mo h7 215 0 al cg sv rs ac rj ro ad bf (x_wr (upd ln_30 lz_30 (z_c16 112)) (lz_30 + 1) ((al (39 + k)).toNatClampNeg)) (lz_30 + 1 + sb_dg ((al (39 + k)).toNatClampNeg)) ip ty he er ea fa cm cn n mn := t7_0
          have p7 := pH.trans (pp7.wide (by omega) (by omega))
          have hb_mo_cg := smo7.bcg
          have hb_mo_lz := smo7.blz
          have hb_mo_ty := smo7.bty
          have hb_mo_he := smo7.bhe
          have hb_mo_cn := smo7.bcn
          have hb_mo_n := smo7.bn
          have hb_mo_mn := smo7.bmn
          change q_W _ _ _ _ _ _ _ _ 76 [.ref (215), .int (nI (k))] [] _
          refine q_iinc (x := nI (k)) (v := nI (k + 1)) dX11_formatDialogue_76 rfl (nI_add _ 1) rfl ?_
          change q_W _ _ _ _ _ _ _ _ _ [.ref (215), .int (nI (k + 1))] [] _
          refine q_goto 30 dX11_formatDialogue_79 (by decide) ?_
          change q_W _ _ _ _ _ _ _ _ _ [.ref (215), .int (nI (k + 1))] [] _
          exact ih (k + 1) (x_wr (upd ln_30 lz_30 (z_c16 112)) (lz_30 + 1) ((al (39 + k)).toNatClampNeg)) (lz_30 + 1 + sb_dg ((al (39 + k)).toNatClampNeg)) h7 smo7 p7 (by omega) (by first | omega | (split <;> omega)) (fun r30_0 r30_1 e9 => K r30_0 r30_1 (by simp only [x_mo_formatDialogue_30, if_pos b41, if_pos b54]; exact e9))
      · have b41 : ¬ (k ≤ 0) := fun q => b41 ((nI_leI (a := k) (b := 0) (by omega) (by omega)).mpr q)
        refine q_aload_n (by first | assumption | omega | decide | (rw [q_R0e]; omega)) dX11_formatDialogue_44 rfl ?_
        refine q_bipush (v := 32) dX11_formatDialogue_45 rfl ?_
        refine q_invV (mc' := 0) (ms' := 0) (d' := d - 1) (as := [.int (32)]) dX11_formatDialogue_47 kM_X11_writes kL_X11_226 kI_X11_writes kS_X11_writes rfl (kC_X11.1) smo_30.c0 rfl rfl (Nat.le_of_ble_eq_true rfl) (by omega) (by decide) (by omega) (by omega) (e_writes (d := d - 1) smo_30 32 (by omega) (by omega)) (q_kC (fun h8 hB => ?_)) q_xC
        obtain ⟨t8_0, pp8⟩ := hB
        have smo8 : z_Mo h8 215 0 al cg sv rs ac rj ro ad bf (upd ln_30 lz_30 (z_c16 32)) (lz_30 + 1) ip ty he er ea fa cm cn n mn := t8_0
        have p8 := pH.trans (pp8.wide (by omega) (by omega))
        have hb_mo_cg := smo8.bcg
        have hb_mo_lz := smo8.blz
        have hb_mo_ty := smo8.bty
        have hb_mo_he := smo8.bhe
        have hb_mo_cn := smo8.bcn
        have hb_mo_n := smo8.bn
        have hb_mo_mn := smo8.bmn
        change q_W _ _ _ _ _ _ _ _ 50 [.ref (215), .int (nI (k))] [] _
        refine q_aload_n (by first | assumption | omega | decide | (rw [q_R0e]; omega)) dX11_formatDialogue_50 rfl ?_
        refine q_iload_n dX11_formatDialogue_51 rfl ?_
        refine q_iconst (v := 2) dX11_formatDialogue_52 rfl ?_
        refine q_iremN (a := k) (b := 2) (by omega) (by decide) (by decide) dX11_formatDialogue_53 ?_
        refine q_if_ne 62 dX11_formatDialogue_54 (by decide) (fun b54 => ?_) (fun b54 => ?_)
        · have b54 : ¬ (k % 2 = 0) := fun q => b54 ((nI_eq (a := k % 2) (b := 0) (by omega) (by omega)).mpr q)
          refine q_bipush (v := 111) dX11_formatDialogue_62 rfl ?_
          refine q_aload_n (by first | assumption | omega | decide | (rw [q_R0e]; omega)) dX11_formatDialogue_64 rfl ?_
          refine q_getf (k := 1) (v := .ref (216)) kC_X11 kL_X11_9 rfl (by decide) dX11_formatDialogue_65 smo8.c0 rfl ?_
          refine q_bipush (v := 39) dX11_formatDialogue_68 rfl ?_
          refine q_iload_n dX11_formatDialogue_70 rfl ?_
          refine q_iaddN (a := 39) (b := k) dX11_formatDialogue_71 ?_
          change q_W _ _ _ _ _ _ _ _ _ _ [.int (nI (39 + k)), .ref (216), .int (111), .ref (215)] _
          refine q_ialdN (j := 39 + k) (f := al) dX11_formatDialogue_72 smo8.c1 (by omega) (by decide) ?_
          change q_W _ _ _ _ _ _ _ _ _ _ [.int (al (39 + k)), .int (111), .ref (215)] _
          have g9 := z_dg4 (x := al (39 + k)) (hnmv _ (by omega))
          refine q_invV (mc' := 0) (ms' := 0) (d' := d - 1) (as := [.int (111), .int (al (39 + k))]) dX11_formatDialogue_73 kM_X11_writesBehind kL_X11_229 kI_X11_writesBehind kS_X11_writesBehind rfl (kC_X11.1) smo8.c0 rfl rfl (Nat.le_of_ble_eq_true rfl) (by omega) (by decide) (by omega) (by omega) (e_mo_writesBehind (d := d - 1) smo8 111 (al (39 + k)) (hnmv _ (by omega)) (by omega) (by omega)) (q_kC (fun h10 hB => ?_)) q_xC
          obtain ⟨t10_0, pp10⟩ := hB
          have smo10 : z_Mo h10 215 0 al cg sv rs ac rj ro ad bf (x_wr (upd (upd ln_30 lz_30 (z_c16 32)) (lz_30 + 1) (z_c16 111)) (lz_30 + 2) ((al (39 + k)).toNatClampNeg)) (lz_30 + 2 + sb_dg ((al (39 + k)).toNatClampNeg)) ip ty he er ea fa cm cn n mn := t10_0
          have p10 := p8.trans (pp10.wide (by omega) (by omega))
          have hb_mo_cg := smo10.bcg
          have hb_mo_lz := smo10.blz
          have hb_mo_ty := smo10.bty
          have hb_mo_he := smo10.bhe
          have hb_mo_cn := smo10.bcn
          have hb_mo_n := smo10.bn
          have hb_mo_mn := smo10.bmn
          change q_W _ _ _ _ _ _ _ _ 76 [.ref (215), .int (nI (k))] [] _
          refine q_iinc (x := nI (k)) (v := nI (k + 1)) dX11_formatDialogue_76 rfl (nI_add _ 1) rfl ?_
          change q_W _ _ _ _ _ _ _ _ _ [.ref (215), .int (nI (k + 1))] [] _
          refine q_goto 30 dX11_formatDialogue_79 (by decide) ?_
          change q_W _ _ _ _ _ _ _ _ _ [.ref (215), .int (nI (k + 1))] [] _
          exact ih (k + 1) (x_wr (upd (upd ln_30 lz_30 (z_c16 32)) (lz_30 + 1) (z_c16 111)) (lz_30 + 2) ((al (39 + k)).toNatClampNeg)) (lz_30 + 2 + sb_dg ((al (39 + k)).toNatClampNeg)) h10 smo10 p10 (by omega) (by first | omega | (split <;> omega)) (fun r30_0 r30_1 e9 => K r30_0 r30_1 (by simp only [x_mo_formatDialogue_30, if_neg b41, if_neg b54]; exact e9))
        · have b54 := (nI_eq (a := k % 2) (b := 0) (by omega) (by omega)).mp b54
          refine q_bipush (v := 112) dX11_formatDialogue_57 rfl ?_
          refine q_goto 64 dX11_formatDialogue_59 (by decide) ?_
          refine q_aload_n (by first | assumption | omega | decide | (rw [q_R0e]; omega)) dX11_formatDialogue_64 rfl ?_
          refine q_getf (k := 1) (v := .ref (216)) kC_X11 kL_X11_9 rfl (by decide) dX11_formatDialogue_65 smo8.c0 rfl ?_
          refine q_bipush (v := 39) dX11_formatDialogue_68 rfl ?_
          refine q_iload_n dX11_formatDialogue_70 rfl ?_
          refine q_iaddN (a := 39) (b := k) dX11_formatDialogue_71 ?_
          change q_W _ _ _ _ _ _ _ _ _ _ [.int (nI (39 + k)), .ref (216), .int (112), .ref (215)] _
          refine q_ialdN (j := 39 + k) (f := al) dX11_formatDialogue_72 smo8.c1 (by omega) (by decide) ?_
          change q_W _ _ _ _ _ _ _ _ _ _ [.int (al (39 + k)), .int (112), .ref (215)] _
          have g11 := z_dg4 (x := al (39 + k)) (hnmv _ (by omega))
          refine q_invV (mc' := 0) (ms' := 0) (d' := d - 1) (as := [.int (112), .int (al (39 + k))]) dX11_formatDialogue_73 kM_X11_writesBehind kL_X11_229 kI_X11_writesBehind kS_X11_writesBehind rfl (kC_X11.1) smo8.c0 rfl rfl (Nat.le_of_ble_eq_true rfl) (by omega) (by decide) (by omega) (by omega) (e_mo_writesBehind (d := d - 1) smo8 112 (al (39 + k)) (hnmv _ (by omega)) (by omega) (by omega)) (q_kC (fun h12 hB => ?_)) q_xC
          obtain ⟨t12_0, pp12⟩ := hB
          have smo12 : z_Mo h12 215 0 al cg sv rs ac rj ro ad bf (x_wr (upd (upd ln_30 lz_30 (z_c16 32)) (lz_30 + 1) (z_c16 112)) (lz_30 + 2) ((al (39 + k)).toNatClampNeg)) (lz_30 + 2 + sb_dg ((al (39 + k)).toNatClampNeg)) ip ty he er ea fa cm cn n mn := t12_0
          have p12 := p8.trans (pp12.wide (by omega) (by omega))
          have hb_mo_cg := smo12.bcg
          have hb_mo_lz := smo12.blz
          have hb_mo_ty := smo12.bty
          have hb_mo_he := smo12.bhe
          have hb_mo_cn := smo12.bcn
          have hb_mo_n := smo12.bn
          have hb_mo_mn := smo12.bmn
          change q_W _ _ _ _ _ _ _ _ 76 [.ref (215), .int (nI (k))] [] _
          refine q_iinc (x := nI (k)) (v := nI (k + 1)) dX11_formatDialogue_76 rfl (nI_add _ 1) rfl ?_
          change q_W _ _ _ _ _ _ _ _ _ [.ref (215), .int (nI (k + 1))] [] _
          refine q_goto 30 dX11_formatDialogue_79 (by decide) ?_
          change q_W _ _ _ _ _ _ _ _ _ [.ref (215), .int (nI (k + 1))] [] _
          exact ih (k + 1) (x_wr (upd (upd ln_30 lz_30 (z_c16 32)) (lz_30 + 1) (z_c16 112)) (lz_30 + 2) ((al (39 + k)).toNatClampNeg)) (lz_30 + 2 + sb_dg ((al (39 + k)).toNatClampNeg)) h12 smo12 p12 (by omega) (by first | omega | (split <;> omega)) (fun r30_0 r30_1 e9 => K r30_0 r30_1 (by simp only [x_mo_formatDialogue_30, if_neg b41, if_pos b54]; exact e9))
def x_mo_formatDialogue (al : Nat → Int32) (ln : Nat → Int32) (lz : Nat) (mn : Nat) : (Int32) × (Int32) × (Nat → Int32) × (Nat) := (if mn ≤ 0 then (0, 1, ln, lz) else (match x_mo_formatDialogue_30 al mn 0 ln 0 with | (a13_0, a13_1) => (nI (a13_1), 0, a13_0, a13_1)))
set_option maxRecDepth 100000 in
set_option maxHeartbeats 8000000 in
theorem e_mo_formatDialogue {g : q_G} {h : q_H} {d : Nat} {th : Int32} {al : Nat → Int32} {cg : Nat} {sv : Bool} {rs : Int32} {ac : Int32} {rj : Int32} {ro : Nat → Int32} {ad : Nat → Int32} {bf : Nat → Int32} {ln : Nat → Int32} {lz : Nat} {ip : Nat → Int32} {ty : Nat} {he : Nat} {er : Int32} {ea : Int32} {fa : Int32} {cm : Nat → Int32} {cn : Nat} {n : Nat} {mn : Nat} (smo : z_Mo h 215 th al cg sv rs ac rj ro ad bf ln lz ip ty he er ea fa cm cn n mn)   (hnmv : ∀ j, j < mn → ∃ m : Nat, m < 10000 ∧ al (39 + j) = nI m)  (hd : 7 ≤ d) : q_Spec g mX11_formatDialogue d 0 0 [.ref (215)] h (q_chg (.inl (some (.int (x_mo_formatDialogue al ln lz mn).1))) (fun h1 => z_Mo h1 215 ((x_mo_formatDialogue al ln lz mn).2.1) al cg sv rs ac rj ro ad bf ((x_mo_formatDialogue al ln lz mn).2.2.1) ((x_mo_formatDialogue al ln lz mn).2.2.2) ip ty he er ea fa cm cn n mn ∧ q_same h h1 215 8)) := by
  have hb_mo_cg := smo.bcg
  have hb_mo_lz := smo.blz
  have hb_mo_ty := smo.bty
  have hb_mo_he := smo.bhe
  have hb_mo_cn := smo.bcn
  have hb_mo_n := smo.bn
  have hb_mo_mn := smo.bmn
  have ho_mo_cg := smo.bcg
  have ho_mo_lz := smo.blz
  have ho_mo_ty := smo.bty
  have ho_mo_he := smo.bhe
  have ho_mo_cn := smo.bcn
  have ho_mo_n := smo.bn
  have ho_mo_mn := smo.bmn
  have p0 : q_same h h 215 8 := q_same.rfl'
  refine q_enter (by decide +kernel) rfl rfl (Nat.le_of_ble_eq_true rfl) (fun hz => ?_)
  change q_W _ _ _ _ _ _ _ _ _ [.ref (215), q_u] [] _
  refine q_aload_n (by first | assumption | omega | decide | (rw [q_R0e]; omega)) dX11_formatDialogue_0 rfl ?_
  refine q_aload_n (by first | assumption | omega | decide | (rw [q_R0e]; omega)) dX11_formatDialogue_1 rfl ?_
  refine q_getf (k := 1) (v := .ref (216)) kC_X11 kL_X11_9 rfl (by decide) dX11_formatDialogue_2 smo.c0 rfl ?_
  refine q_iconst (v := 3) dX11_formatDialogue_5 rfl ?_
  refine q_ialdN (j := 3) (f := al) dX11_formatDialogue_6 smo.c1 (by omega) (by decide) ?_
  rw [smo.emn]
  change q_W _ _ _ _ _ _ _ _ _ _ [.int (nI (mn)), .ref (215)] _
  refine q_if_le 14 dX11_formatDialogue_7 (by decide) (fun b7 => ?_) (fun b7 => ?_)
  · have b7 := (nI_leI (a := mn) (b := 0) (by omega) (by omega)).mp b7
    refine q_iconst (v := 0) dX11_formatDialogue_14 rfl ?_
    refine q_invV (mc' := 0) (ms' := 0) (d' := d - 1) (as := [.int (0)]) dX11_formatDialogue_15 kM_X11_isFine kL_X11_181 kI_X11_isFine kS_X11_isFine rfl (kC_X11.1) smo.c0 rfl rfl (Nat.le_of_ble_eq_true rfl) (by omega) (by decide) (by omega) (by omega) (e_isFine (d := d - 1) smo (xb := false) (by omega)) (q_kC (fun h1 hB => ?_)) q_xC
    obtain ⟨t1_0, pp1⟩ := hB
    have smo1 : z_Mo h1 215 1 al cg sv rs ac rj ro ad bf ln lz ip ty he er ea fa cm cn n mn := t1_0
    have p1 := p0.trans (pp1.wide (by omega) (by omega))
    have hb_mo_cg := smo1.bcg
    have hb_mo_lz := smo1.blz
    have hb_mo_ty := smo1.bty
    have hb_mo_he := smo1.bhe
    have hb_mo_cn := smo1.bcn
    have hb_mo_n := smo1.bn
    have hb_mo_mn := smo1.bmn
    change q_W _ _ _ _ _ _ _ _ 18 [.ref (215), q_u] [.int (0)] _
    refine q_if_ne 23 dX11_formatDialogue_18 (by decide) (fun b18 => ?_) (fun b18 => ?_)
    · exact absurd (by decide) b18
    · refine q_iconst (v := 0) dX11_formatDialogue_21 rfl ?_
      have hE : x_mo_formatDialogue al ln lz mn = (0, 1, ln, lz) := by simp only [x_mo_formatDialogue, if_pos b7]
      rw [hE]
      exact q_ireturn dX11_formatDialogue_22 rfl rfl (by omega) (by omega) ⟨rfl, smo1, p1⟩
  · have b7 : ¬ (mn ≤ 0) := fun q => b7 ((nI_leI (a := mn) (b := 0) (by omega) (by omega)).mpr q)
    refine q_iconst (v := 1) dX11_formatDialogue_10 rfl ?_
    refine q_goto 15 dX11_formatDialogue_11 (by decide) ?_
    refine q_invV (mc' := 0) (ms' := 0) (d' := d - 1) (as := [.int (1)]) dX11_formatDialogue_15 kM_X11_isFine kL_X11_181 kI_X11_isFine kS_X11_isFine rfl (kC_X11.1) smo.c0 rfl rfl (Nat.le_of_ble_eq_true rfl) (by omega) (by decide) (by omega) (by omega) (e_isFine (d := d - 1) smo (xb := true) (by omega)) (q_kC (fun h2 hB => ?_)) q_xC
    obtain ⟨t2_0, pp2⟩ := hB
    have smo2 : z_Mo h2 215 0 al cg sv rs ac rj ro ad bf ln lz ip ty he er ea fa cm cn n mn := t2_0
    have p2 := p0.trans (pp2.wide (by omega) (by omega))
    have hb_mo_cg := smo2.bcg
    have hb_mo_lz := smo2.blz
    have hb_mo_ty := smo2.bty
    have hb_mo_he := smo2.bhe
    have hb_mo_cn := smo2.bcn
    have hb_mo_n := smo2.bn
    have hb_mo_mn := smo2.bmn
    change q_W _ _ _ _ _ _ _ _ 18 [.ref (215), q_u] [.int (1)] _
    refine q_if_ne 23 dX11_formatDialogue_18 (by decide) (fun b18 => ?_) (fun b18 => ?_)
    · refine q_aload_n (by first | assumption | omega | decide | (rw [q_R0e]; omega)) dX11_formatDialogue_23 rfl ?_
      refine q_iconst (v := 0) dX11_formatDialogue_24 rfl ?_
      refine q_putf (k := 11) kC_X11 kL_X11_220 rfl (by decide) rfl dX11_formatDialogue_25 smo2.c0 (Nat.le_of_ble_eq_true rfl) ⟨rfl, rfl⟩ rfl ?_
      refine z_genW (B := fun H => z_Mo H 215 0 al cg sv rs ac rj ro ad bf ln 0 ip ty he er ea fa cm cn n mn ∧ q_same h H 215 8) ⟨z_Mo.put0 smo2 (cg' := cg) (sv' := sv) (lz' := 0) (ty' := ty) (he' := he) (cn' := cn) (hbcg := by first | omega | (split <;> omega)) (hblz := by first | omega | (split <;> omega)) (hbty := by first | omega | (split <;> omega)) (hbhe := by first | omega | (split <;> omega)) (hbcn := by first | omega | (split <;> omega)), p2.trans (q_same.set (by omega) (by omega))⟩ (fun h3 hB => ?_)
      obtain ⟨smo3, p3⟩ := hB
      have hb_mo_cg := smo3.bcg
      have hb_mo_ty := smo3.bty
      have hb_mo_he := smo3.bhe
      have hb_mo_cn := smo3.bcn
      have hb_mo_n := smo3.bn
      have hb_mo_mn := smo3.bmn
      refine q_iconst (v := 0) dX11_formatDialogue_28 rfl ?_
      refine q_istore_n dX11_formatDialogue_29 (by decide) rfl ?_
      change q_W _ _ _ _ _ _ _ _ _ [.ref (215), .int (0)] [] _
      change q_W _ _ _ _ _ _ _ _ _ [.ref (215), .int (0)] [] _
      refine l_mo_formatDialogue_30 hnmv ho_mo_cg ho_mo_ty ho_mo_he ho_mo_cn ho_mo_n ho_mo_mn b7 (by omega) (by omega) (by omega) mn 0 ln 0 h3 smo3 p3 (by omega) (by omega) (fun a13_0 a13_1 x13 hq13_1 h14 smo14 p14 => ?_)
      have hb_mo_cg := smo14.bcg
      have hb_mo_lz := smo14.blz
      have hb_mo_ty := smo14.bty
      have hb_mo_he := smo14.bhe
      have hb_mo_cn := smo14.bcn
      have hb_mo_n := smo14.bn
      have hb_mo_mn := smo14.bmn
      change q_W _ _ _ _ _ _ _ _ 82 [.ref (215), q_u] [] _
      refine q_aload_n (by first | assumption | omega | decide | (rw [q_R0e]; omega)) dX11_formatDialogue_82 rfl ?_
      refine q_getf (k := 11) (v := .int (nI (a13_1))) kC_X11 kL_X11_220 rfl (by decide) dX11_formatDialogue_83 smo14.c0 rfl ?_
      have hE : x_mo_formatDialogue al ln lz mn = (nI (a13_1), 0, a13_0, a13_1) := by simp only [x_mo_formatDialogue, if_neg b7, x13]
      rw [hE]
      exact q_ireturn dX11_formatDialogue_86 rfl rfl (by omega) (by omega) ⟨rfl, smo14, p14⟩
    · exact absurd b18 (by decide)
theorem z_vin {x : Int32} {n m : Nat} (h : ¬ x < 0 ∧ x < nI n) (hn : n ≤ m) (hm : m < 2 ^ 30) : vp_in x m := by
  obtain ⟨j, hj, rfl⟩ := nI_of h.1
  have := (nI_ltI hj (by omega)).mp h.2
  exact vp_in_nI (by omega) (by omega)
theorem z_mlc {ln : Nat → Int32} {x : Int32} {lz : Nat} (hch : ∀ j, j < lz → narrow .char (.int (ln j)) = .int (ln j)) (h : ¬ x < 0 ∧ x < nI lz) (hn : lz ≤ 160) : narrow .char (.int (ln x.toNatClampNeg)) = .int (ln x.toNatClampNeg) := by
  obtain ⟨j, hj, rfl⟩ := nI_of h.1
  rw [nI_clamp hj]
  exact hch j ((nI_ltI hj (by omega)).mp h.2)
theorem z_vcl {x : Int32} (h : z_lat x) : vp_nar .char x = x := by
  unfold vp_nar
  rw [z_lat_char h]
theorem z_in2 {x : Int32} (h : x_mo_in x 32 126 = true) : z_lat x := by
  unfold x_mo_in at h
  split at h
  · cases h
  · next h1 =>
    split at h
    · cases h
    · next h2 => exact z_latr h1 (Int32.not_lt.mp h2)
def x_mo_lineChar (ln : Nat → Int32) (lz : Nat) (xp : Int32) : (Int32) × (Int32) := (if x_mo_in xp 0 ((nI (lz)) - (1 : Int32)) then (ln (xp).toNatClampNeg, (if x_mo_in xp 0 ((nI (lz)) - (1 : Int32)) then 0 else 1)) else (0, (if x_mo_in xp 0 ((nI (lz)) - (1 : Int32)) then 0 else 1)))
set_option maxRecDepth 100000 in
set_option maxHeartbeats 8000000 in
theorem e_mo_lineChar {g : q_G} {h : q_H} {d : Nat} {th : Int32} {al : Nat → Int32} {cg : Nat} {sv : Bool} {rs : Int32} {ac : Int32} {rj : Int32} {ro : Nat → Int32} {ad : Nat → Int32} {bf : Nat → Int32} {ln : Nat → Int32} {lz : Nat} {ip : Nat → Int32} {ty : Nat} {he : Nat} {er : Int32} {ea : Int32} {fa : Int32} {cm : Nat → Int32} {cn : Nat} {n : Nat} {mn : Nat} (smo : z_Mo h 215 th al cg sv rs ac rj ro ad bf ln lz ip ty he er ea fa cm cn n mn)  (xp : Int32) (hch : ∀ j, j < lz → narrow .char (.int (ln j)) = .int (ln j))  (hd : 1 ≤ d) : q_Spec g mX11_lineChar d 0 0 [.ref (215), .int (xp)] h (q_chg (.inl (some (.int (x_mo_lineChar ln lz xp).1))) (fun h1 => z_Mo h1 215 ((x_mo_lineChar ln lz xp).2) al cg sv rs ac rj ro ad bf ln lz ip ty he er ea fa cm cn n mn ∧ q_same h h1 215 8)) := by
  have hb_mo_cg := smo.bcg
  have hb_mo_lz := smo.blz
  have hb_mo_ty := smo.bty
  have hb_mo_he := smo.bhe
  have hb_mo_cn := smo.bcn
  have hb_mo_n := smo.bn
  have hb_mo_mn := smo.bmn
  have ho_mo_cg := smo.bcg
  have ho_mo_lz := smo.blz
  have ho_mo_ty := smo.bty
  have ho_mo_he := smo.bhe
  have ho_mo_cn := smo.bcn
  have ho_mo_n := smo.bn
  have ho_mo_mn := smo.bmn
  have p0 : q_same h h 215 8 := q_same.rfl'
  refine q_enter (by decide +kernel) rfl rfl (Nat.le_of_ble_eq_true rfl) (fun hz => ?_)
  change q_W _ _ _ _ _ _ _ _ _ [.ref (215), .int (xp)] [] _
  refine q_aload_n (by first | assumption | omega | decide | (rw [q_R0e]; omega)) dX11_lineChar_0 rfl ?_
  refine q_iload_n dX11_lineChar_1 rfl ?_
  refine q_iconst (v := 0) dX11_lineChar_2 rfl ?_
  refine q_aload_n (by first | assumption | omega | decide | (rw [q_R0e]; omega)) dX11_lineChar_3 rfl ?_
  refine q_getf (k := 11) (v := .int (nI (lz))) kC_X11 kL_X11_220 rfl (by decide) dX11_lineChar_4 smo.c0 rfl ?_
  refine q_iconst (v := 1) dX11_lineChar_7 rfl ?_
  refine q_isub dX11_lineChar_8 ?_
  refine q_invS (mc' := 0) (ms' := 0) (d' := d - 1) (as := [.int (xp), .int (0), .int ((nI (lz)) - (1 : Int32))]) dX11_lineChar_9 kM_X11_in kL_X11_109 kT_X11_in rfl rfl rfl (Nat.le_of_ble_eq_true rfl) (by omega) (by decide) (by omega) (by omega) (e_mo_in (d := d - 1) xp 0 ((nI (lz)) - (1 : Int32)) (by omega)) (q_kR ?_) q_xR
  change q_W _ _ _ _ _ _ _ _ 12 [.ref (215), .int (xp)] [.int (z_b (x_mo_in xp 0 ((nI (lz)) - (1 : Int32)))), .ref (215)] _
  refine q_invV (mc' := 0) (ms' := 0) (d' := d - 1) (as := [.int (z_b (x_mo_in xp 0 ((nI (lz)) - (1 : Int32))))]) dX11_lineChar_12 kM_X11_isFine kL_X11_181 kI_X11_isFine kS_X11_isFine rfl (kC_X11.1) smo.c0 rfl rfl (Nat.le_of_ble_eq_true rfl) (by omega) (by decide) (by omega) (by omega) (e_isFine (d := d - 1) smo (xb := (x_mo_in xp 0 ((nI (lz)) - (1 : Int32)))) (by omega)) (q_kC (fun h1 hB => ?_)) q_xC
  obtain ⟨t1_0, pp1⟩ := hB
  have smo1 : z_Mo h1 215 (if x_mo_in xp 0 ((nI (lz)) - (1 : Int32)) then 0 else 1) al cg sv rs ac rj ro ad bf ln lz ip ty he er ea fa cm cn n mn := t1_0
  have p1 := p0.trans (pp1.wide (by omega) (by omega))
  have hb_mo_cg := smo1.bcg
  have hb_mo_lz := smo1.blz
  have hb_mo_ty := smo1.bty
  have hb_mo_he := smo1.bhe
  have hb_mo_cn := smo1.bcn
  have hb_mo_n := smo1.bn
  have hb_mo_mn := smo1.bmn
  change q_W _ _ _ _ _ _ _ _ 15 [.ref (215), .int (xp)] [.int (z_b (x_mo_in xp 0 ((nI (lz)) - (1 : Int32))))] _
  refine q_if_eq 27 dX11_lineChar_15 (by decide) (fun b15 => ?_) (fun b15 => ?_)
  · have b15 := z_b0n b15
    refine q_iconst (v := 0) dX11_lineChar_27 rfl ?_
    have hE : x_mo_lineChar ln lz xp = (0, (if x_mo_in xp 0 ((nI (lz)) - (1 : Int32)) then 0 else 1)) := by simp only [x_mo_lineChar, if_neg b15]
    rw [hE]
    exact q_ireturn dX11_lineChar_28 rfl rfl (by omega) (by omega) ⟨rfl, smo1, p1⟩
  · have b15 := z_b1 b15
    refine q_aload_n (by first | assumption | omega | decide | (rw [q_R0e]; omega)) dX11_lineChar_18 rfl ?_
    refine q_getf (k := 10) (v := .ref (220)) kC_X11 kL_X11_23 rfl (by decide) dX11_lineChar_19 smo1.c0 rfl ?_
    refine q_iload_n dX11_lineChar_22 rfl ?_
    refine q_cald (f := ln) dX11_lineChar_23 smo1.c5 (z_vin (z_in0 (by omega) b15) (by omega) (by decide)) ?_
    change q_W _ _ _ _ _ _ _ _ 24 [.ref (215), .int (xp)] [.int (ln (xp).toNatClampNeg)] _
    refine q_goto 28 dX11_lineChar_24 (by decide) ?_
    have hE : x_mo_lineChar ln lz xp = (ln (xp).toNatClampNeg, (if x_mo_in xp 0 ((nI (lz)) - (1 : Int32)) then 0 else 1)) := by simp only [x_mo_lineChar, if_pos b15]
    rw [hE]
    exact q_ireturn dX11_lineChar_28 rfl (z_mlc hch (z_in0 (by omega) b15) (by omega)) (by omega) (by omega) ⟨rfl, smo1, p1⟩
def x_mo_append (ip : Nat → Int32) (ty : Nat) (xc : Int32) : (Int32) × (Int32) × (Nat → Int32) × (Nat) := (if x_mo_in xc 32 126 then (if ty = 60 then (0, 2, ip, ty) else (nI (ty + 1), 0, upd ip ty (xc), ty + 1)) else (0, 1, ip, ty))
set_option maxRecDepth 100000 in
set_option maxHeartbeats 8000000 in
theorem e_mo_append {g : q_G} {h : q_H} {d : Nat} {th : Int32} {al : Nat → Int32} {cg : Nat} {sv : Bool} {rs : Int32} {ac : Int32} {rj : Int32} {ro : Nat → Int32} {ad : Nat → Int32} {bf : Nat → Int32} {ln : Nat → Int32} {lz : Nat} {ip : Nat → Int32} {ty : Nat} {he : Nat} {er : Int32} {ea : Int32} {fa : Int32} {cm : Nat → Int32} {cn : Nat} {n : Nat} {mn : Nat} (smo : z_Mo h 215 th al cg sv rs ac rj ro ad bf ln lz ip ty he er ea fa cm cn n mn)  (xc : Int32)   (hd : 1 ≤ d) : q_Spec g mX11_append d 0 0 [.ref (215), .int (xc)] h (q_chg (.inl (some (.int (x_mo_append ip ty xc).1))) (fun h1 => z_Mo h1 215 ((x_mo_append ip ty xc).2.1) al cg sv rs ac rj ro ad bf ln lz ((x_mo_append ip ty xc).2.2.1) ((x_mo_append ip ty xc).2.2.2) he er ea fa cm cn n mn ∧ q_same h h1 215 8)) := by
  have hb_mo_cg := smo.bcg
  have hb_mo_lz := smo.blz
  have hb_mo_ty := smo.bty
  have hb_mo_he := smo.bhe
  have hb_mo_cn := smo.bcn
  have hb_mo_n := smo.bn
  have hb_mo_mn := smo.bmn
  have ho_mo_cg := smo.bcg
  have ho_mo_lz := smo.blz
  have ho_mo_ty := smo.bty
  have ho_mo_he := smo.bhe
  have ho_mo_cn := smo.bcn
  have ho_mo_n := smo.bn
  have ho_mo_mn := smo.bmn
  have p0 : q_same h h 215 8 := q_same.rfl'
  refine q_enter (by decide +kernel) rfl rfl (Nat.le_of_ble_eq_true rfl) (fun hz => ?_)
  change q_W _ _ _ _ _ _ _ _ _ [.ref (215), .int (xc)] [] _
  refine q_aload_n (by first | assumption | omega | decide | (rw [q_R0e]; omega)) dX11_append_0 rfl ?_
  refine q_iload_n dX11_append_1 rfl ?_
  refine q_bipush (v := 32) dX11_append_2 rfl ?_
  refine q_bipush (v := 126) dX11_append_4 rfl ?_
  refine q_invS (mc' := 0) (ms' := 0) (d' := d - 1) (as := [.int (xc), .int (32), .int (126)]) dX11_append_6 kM_X11_in kL_X11_109 kT_X11_in rfl rfl rfl (Nat.le_of_ble_eq_true rfl) (by omega) (by decide) (by omega) (by omega) (e_mo_in (d := d - 1) xc 32 126 (by omega)) (q_kR ?_) q_xR
  change q_W _ _ _ _ _ _ _ _ 9 [.ref (215), .int (xc)] [.int (z_b (x_mo_in xc 32 126)), .ref (215)] _
  refine q_if_ne 16 dX11_append_9 (by decide) (fun b9 => ?_) (fun b9 => ?_)
  · have b9 := z_b1 b9
    refine q_aload_n (by first | assumption | omega | decide | (rw [q_R0e]; omega)) dX11_append_16 rfl ?_
    refine q_getf (k := 13) (v := .int (nI (ty))) kC_X11 kL_X11_232 rfl (by decide) dX11_append_17 smo.c0 rfl ?_
    refine q_bipush (v := 60) dX11_append_20 rfl ?_
    refine q_icmp_ne 29 dX11_append_22 (by decide) (fun b22 => ?_) (fun b22 => ?_)
    · have b22 : ¬ (ty = 60) := fun q => b22 ((nI_eq (a := ty) (b := 60) (by omega) (by omega)).mpr q)
      refine q_iconst (v := 0) dX11_append_29 rfl ?_
      refine q_putf (k := 0) kC_X11 kL_X11_40 rfl (by decide) rfl dX11_append_30 smo.c0 (Nat.le_of_ble_eq_true rfl) ⟨rfl, rfl⟩ rfl ?_
      refine z_genW (B := fun H => z_Mo H 215 0 al cg sv rs ac rj ro ad bf ln lz ip ty he er ea fa cm cn n mn ∧ q_same h H 215 8) ⟨z_Mo.put0 smo (cg' := cg) (sv' := sv) (lz' := lz) (ty' := ty) (he' := he) (cn' := cn) (hbcg := by first | omega | (split <;> omega)) (hblz := by first | omega | (split <;> omega)) (hbty := by first | omega | (split <;> omega)) (hbhe := by first | omega | (split <;> omega)) (hbcn := by first | omega | (split <;> omega)), p0.trans (q_same.set (by omega) (by omega))⟩ (fun h1 hB => ?_)
      obtain ⟨smo1, p1⟩ := hB
      have hb_mo_cg := smo1.bcg
      have hb_mo_lz := smo1.blz
      have hb_mo_ty := smo1.bty
      have hb_mo_he := smo1.bhe
      have hb_mo_cn := smo1.bcn
      have hb_mo_n := smo1.bn
      have hb_mo_mn := smo1.bmn
      refine q_aload_n (by first | assumption | omega | decide | (rw [q_R0e]; omega)) dX11_append_33 rfl ?_
      refine q_getf (k := 0) (v := .int (0)) kC_X11 kL_X11_40 rfl (by decide) dX11_append_34 smo1.c0 rfl ?_
      refine q_if_eq 42 dX11_append_37 (by decide) (fun b37 => ?_) (fun b37 => ?_)
      · refine q_aload_n (by first | assumption | omega | decide | (rw [q_R0e]; omega)) dX11_append_42 rfl ?_
        refine q_getf (k := 12) (v := .ref (221)) kC_X11 kL_X11_27 rfl (by decide) dX11_append_43 smo1.c0 rfl ?_
        refine q_aload_n (by first | assumption | omega | decide | (rw [q_R0e]; omega)) dX11_append_46 rfl ?_
        refine q_getf (k := 13) (v := .int (nI (ty))) kC_X11 kL_X11_232 rfl (by decide) dX11_append_47 smo1.c0 rfl ?_
        refine q_iload_n dX11_append_50 rfl ?_
        refine q_castN (j := ty) (z_vcl (z_in2 b9)) dX11_append_51 smo1.c6 (by omega) (by decide) ?_
        refine z_genW (B := fun H => z_Mo H 215 0 al cg sv rs ac rj ro ad bf ln lz (upd ip ty (xc)) ty he er ea fa cm cn n mn ∧ q_same h H 215 8) ⟨z_Mo.put6 smo1, p1.trans (q_same.set (by omega) (by omega))⟩ (fun h2 hB => ?_)
        obtain ⟨smo2, p2⟩ := hB
        have hb_mo_cg := smo2.bcg
        have hb_mo_lz := smo2.blz
        have hb_mo_ty := smo2.bty
        have hb_mo_he := smo2.bhe
        have hb_mo_cn := smo2.bcn
        have hb_mo_n := smo2.bn
        have hb_mo_mn := smo2.bmn
        refine q_aload_n (by first | assumption | omega | decide | (rw [q_R0e]; omega)) dX11_append_52 rfl ?_
        refine q_dup dX11_append_53 rfl ?_
        refine q_getf (k := 13) (v := .int (nI (ty))) kC_X11 kL_X11_232 rfl (by decide) dX11_append_54 smo2.c0 rfl ?_
        refine q_iconst (v := 1) dX11_append_57 rfl ?_
        refine q_iaddN (a := ty) (b := 1) dX11_append_58 ?_
        change q_W _ _ _ _ _ _ _ _ _ _ [.int (nI (ty + 1)), .ref (215)] _
        refine q_putf (k := 13) kC_X11 kL_X11_232 rfl (by decide) rfl dX11_append_59 smo2.c0 (Nat.le_of_ble_eq_true rfl) ⟨rfl, rfl⟩ rfl ?_
        refine z_genW (B := fun H => z_Mo H 215 0 al cg sv rs ac rj ro ad bf ln lz (upd ip ty (xc)) (ty + 1) he er ea fa cm cn n mn ∧ q_same h H 215 8) ⟨z_Mo.put0 smo2 (cg' := cg) (sv' := sv) (lz' := lz) (ty' := ty + 1) (he' := he) (cn' := cn) (hbcg := by first | omega | (split <;> omega)) (hblz := by first | omega | (split <;> omega)) (hbty := by first | omega | (split <;> omega)) (hbhe := by first | omega | (split <;> omega)) (hbcn := by first | omega | (split <;> omega)), p2.trans (q_same.set (by omega) (by omega))⟩ (fun h3 hB => ?_)
        obtain ⟨smo3, p3⟩ := hB
        have hb_mo_cg := smo3.bcg
        have hb_mo_lz := smo3.blz
        have hb_mo_ty := smo3.bty
        have hb_mo_he := smo3.bhe
        have hb_mo_cn := smo3.bcn
        have hb_mo_n := smo3.bn
        have hb_mo_mn := smo3.bmn
        refine q_aload_n (by first | assumption | omega | decide | (rw [q_R0e]; omega)) dX11_append_62 rfl ?_
        refine q_getf (k := 13) (v := .int (nI (ty + 1))) kC_X11 kL_X11_232 rfl (by decide) dX11_append_63 smo3.c0 rfl ?_
        have hE : x_mo_append ip ty xc = (nI (ty + 1), 0, upd ip ty (xc), ty + 1) := by simp only [x_mo_append, if_pos b9, if_neg b22]
        rw [hE]
        exact q_ireturn dX11_append_66 rfl rfl (by omega) (by omega) ⟨rfl, smo3, p3⟩
      · exact absurd (by decide) b37
    · have b22 := (nI_eq (a := ty) (b := 60) (by omega) (by omega)).mp b22
      refine q_iconst (v := 2) dX11_append_25 rfl ?_
      refine q_goto 30 dX11_append_26 (by decide) ?_
      refine q_putf (k := 0) kC_X11 kL_X11_40 rfl (by decide) rfl dX11_append_30 smo.c0 (Nat.le_of_ble_eq_true rfl) ⟨rfl, rfl⟩ rfl ?_
      refine z_genW (B := fun H => z_Mo H 215 2 al cg sv rs ac rj ro ad bf ln lz ip ty he er ea fa cm cn n mn ∧ q_same h H 215 8) ⟨z_Mo.put0 smo (cg' := cg) (sv' := sv) (lz' := lz) (ty' := ty) (he' := he) (cn' := cn) (hbcg := by first | omega | (split <;> omega)) (hblz := by first | omega | (split <;> omega)) (hbty := by first | omega | (split <;> omega)) (hbhe := by first | omega | (split <;> omega)) (hbcn := by first | omega | (split <;> omega)), p0.trans (q_same.set (by omega) (by omega))⟩ (fun h4 hB => ?_)
      obtain ⟨smo4, p4⟩ := hB
      have hb_mo_cg := smo4.bcg
      have hb_mo_lz := smo4.blz
      have hb_mo_ty := smo4.bty
      have hb_mo_he := smo4.bhe
      have hb_mo_cn := smo4.bcn
      have hb_mo_n := smo4.bn
      have hb_mo_mn := smo4.bmn
      refine q_aload_n (by first | assumption | omega | decide | (rw [q_R0e]; omega)) dX11_append_33 rfl ?_
      refine q_getf (k := 0) (v := .int (2)) kC_X11 kL_X11_40 rfl (by decide) dX11_append_34 smo4.c0 rfl ?_
      refine q_if_eq 42 dX11_append_37 (by decide) (fun b37 => ?_) (fun b37 => ?_)
      · exact absurd b37 (by decide)
      · refine q_iconst (v := 0) dX11_append_40 rfl ?_
        have hE : x_mo_append ip ty xc = (0, 2, ip, ty) := by simp only [x_mo_append, if_pos b9, if_pos b22]
        rw [hE]
        exact q_ireturn dX11_append_41 rfl rfl (by omega) (by omega) ⟨rfl, smo4, p4⟩
  · have b9 := z_b0n b9
    refine q_iconst (v := 1) dX11_append_12 rfl ?_
    refine q_goto 30 dX11_append_13 (by decide) ?_
    refine q_putf (k := 0) kC_X11 kL_X11_40 rfl (by decide) rfl dX11_append_30 smo.c0 (Nat.le_of_ble_eq_true rfl) ⟨rfl, rfl⟩ rfl ?_
    refine z_genW (B := fun H => z_Mo H 215 1 al cg sv rs ac rj ro ad bf ln lz ip ty he er ea fa cm cn n mn ∧ q_same h H 215 8) ⟨z_Mo.put0 smo (cg' := cg) (sv' := sv) (lz' := lz) (ty' := ty) (he' := he) (cn' := cn) (hbcg := by first | omega | (split <;> omega)) (hblz := by first | omega | (split <;> omega)) (hbty := by first | omega | (split <;> omega)) (hbhe := by first | omega | (split <;> omega)) (hbcn := by first | omega | (split <;> omega)), p0.trans (q_same.set (by omega) (by omega))⟩ (fun h5 hB => ?_)
    obtain ⟨smo5, p5⟩ := hB
    have hb_mo_cg := smo5.bcg
    have hb_mo_lz := smo5.blz
    have hb_mo_ty := smo5.bty
    have hb_mo_he := smo5.bhe
    have hb_mo_cn := smo5.bcn
    have hb_mo_n := smo5.bn
    have hb_mo_mn := smo5.bmn
    refine q_aload_n (by first | assumption | omega | decide | (rw [q_R0e]; omega)) dX11_append_33 rfl ?_
    refine q_getf (k := 0) (v := .int (1)) kC_X11 kL_X11_40 rfl (by decide) dX11_append_34 smo5.c0 rfl ?_
    refine q_if_eq 42 dX11_append_37 (by decide) (fun b37 => ?_) (fun b37 => ?_)
    · exact absurd b37 (by decide)
    · refine q_iconst (v := 0) dX11_append_40 rfl ?_
      have hE : x_mo_append ip ty xc = (0, 1, ip, ty) := by simp only [x_mo_append, if_neg b9]
      rw [hE]
      exact q_ireturn dX11_append_41 rfl rfl (by omega) (by omega) ⟨rfl, smo5, p5⟩