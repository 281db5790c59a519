def x_mo_isFineR (xb : Bool) : (Bool) × (Int32) := (if xb then (xb, 0) else (xb, 1))
set_option maxRecDepth 100000 in
set_option maxHeartbeats 8000000 in
theorem e_mo_isFineR {g : q_G} {h : q_H} {d : Nat} {th : Int32} {al : Nat → Int32} {cg : Nat} {sv : Bool} {rs : Int32} {ac : Int32} {rj : Int32} {ro : Nat → Int32} {ad : Nat → Int32} {bf : Nat → Int32} {ln : Nat → Int32} {lz : Nat} {ip : Nat → Int32} {ty : Nat} {he : Nat} {er : Int32} {ea : Int32} {fa : Int32} {cm : Nat → Int32} {cn : Nat} (smo : z_Mr h 215 th al cg sv rs ac rj ro ad bf ln lz ip ty he er ea fa cm cn)  (xb : Bool)   (hd : 0 ≤ d) : q_Spec g mX11_isFine d 0 0 [.ref (215), .int (z_b xb)] h (q_chg (.inl (some (.int (z_b (x_mo_isFineR xb).1)))) (fun h1 => z_Mr h1 215 ((x_mo_isFineR xb).2) al cg sv rs ac rj ro ad bf ln lz ip ty he er ea fa cm cn ∧ q_same h h1 215 8)) := by
  have hb_mo_cg := smo.bcg
  have hb_mo_lz := smo.blz
  have hb_mo_ty := smo.bty
  have hb_mo_he := smo.bhe
  have hb_mo_cn := smo.bcn
  have ho_mo_cg := smo.bcg
  have ho_mo_lz := smo.blz
  have ho_mo_ty := smo.bty
  have ho_mo_he := smo.bhe
  have ho_mo_cn := smo.bcn
  have p0 : q_same h h 215 8 := q_same.rfl'
  refine q_enter (by decide +kernel) rfl rfl (Nat.le_of_ble_eq_true rfl) (fun hz => ?_)
  change q_W _ _ _ _ _ _ _ _ _ [.ref (215), .int (z_b xb)] [] _
  refine q_aload_n (by first | assumption | omega | decide | (rw [q_R0e]; omega)) dX11_isFine_0 rfl ?_
  refine q_iload_n dX11_isFine_1 rfl ?_
  refine q_if_eq 9 dX11_isFine_2 (by decide) (fun b2 => ?_) (fun b2 => ?_)
  · have b2 := z_b0n b2
    refine q_iconst (v := 1) dX11_isFine_9 rfl ?_
    refine q_putf (k := 0) kC_X11 kL_X11_40 rfl (by decide) rfl dX11_isFine_10 smo.c0 (Nat.le_of_ble_eq_true rfl) ⟨rfl, rfl⟩ rfl ?_
    refine z_genW (B := fun H => z_Mr H 215 1 al cg sv rs ac rj ro ad bf ln lz ip ty he er ea fa cm cn ∧ q_same h H 215 8) ⟨z_Mr.put0 smo (cg' := cg) (sv' := sv) (lz' := lz) (ty' := ty) (he' := he) (cn' := cn) (hbcg := by first | omega | (split <;> omega)) (hblz := by first | omega | (split <;> omega)) (hbty := by first | omega | (split <;> omega)) (hbhe := by first | omega | (split <;> omega)) (hbcn := by first | omega | (split <;> omega)), p0.trans (q_same.set (by omega) (by omega))⟩ (fun h1 hB => ?_)
    obtain ⟨smo1, p1⟩ := hB
    have hb_mo_cg := smo1.bcg
    have hb_mo_lz := smo1.blz
    have hb_mo_ty := smo1.bty
    have hb_mo_he := smo1.bhe
    have hb_mo_cn := smo1.bcn
    refine q_iload_n dX11_isFine_13 rfl ?_
    have hE : x_mo_isFineR xb = (xb, 1) := by simp only [x_mo_isFineR, if_neg b2]
    rw [hE]
    exact q_ireturn dX11_isFine_14 rfl (z_b_nar _) (by omega) (by omega) ⟨rfl, smo1, p1⟩
  · have b2 := z_b1 b2
    refine q_iconst (v := 0) dX11_isFine_5 rfl ?_
    refine q_goto 10 dX11_isFine_6 (by decide) ?_
    refine q_putf (k := 0) kC_X11 kL_X11_40 rfl (by decide) rfl dX11_isFine_10 smo.c0 (Nat.le_of_ble_eq_true rfl) ⟨rfl, rfl⟩ rfl ?_
    refine z_genW (B := fun H => z_Mr H 215 0 al cg sv rs ac rj ro ad bf ln lz ip ty he er ea fa cm cn ∧ q_same h H 215 8) ⟨z_Mr.put0 smo (cg' := cg) (sv' := sv) (lz' := lz) (ty' := ty) (he' := he) (cn' := cn) (hbcg := by first | omega | (split <;> omega)) (hblz := by first | omega | (split <;> omega)) (hbty := by first | omega | (split <;> omega)) (hbhe := by first | omega | (split <;> omega)) (hbcn := by first | omega | (split <;> omega)), p0.trans (q_same.set (by omega) (by omega))⟩ (fun h2 hB => ?_)
    obtain ⟨smo2, p2⟩ := hB
    have hb_mo_cg := smo2.bcg
    have hb_mo_lz := smo2.blz
    have hb_mo_ty := smo2.bty
    have hb_mo_he := smo2.bhe
    have hb_mo_cn := smo2.bcn
    refine q_iload_n dX11_isFine_13 rfl ?_
    have hE : x_mo_isFineR xb = (xb, 0) := by simp only [x_mo_isFineR, if_pos b2]
    rw [hE]
    exact q_ireturn dX11_isFine_14 rfl (z_b_nar _) (by omega) (by omega) ⟨rfl, smo2, p2⟩
theorem e_isFineR {g : q_G} {h : q_H} {d : Nat} {th : Int32} {al : Nat → Int32} {cg : Nat} {sv : Bool} {rs : Int32} {ac : Int32} {rj : Int32} {ro : Nat → Int32} {ad : Nat → Int32} {bf : Nat → Int32} {ln : Nat → Int32} {lz : Nat} {ip : Nat → Int32} {ty : Nat} {he : Nat} {er : Int32} {ea : Int32} {fa : Int32} {cm : Nat → Int32} {cn : Nat} (smo : z_Mr h 215 th al cg sv rs ac rj ro ad bf ln lz ip ty he er ea fa cm cn) {xb : Bool} (hd : 0 ≤ d) : q_Spec g mX11_isFine d 0 0 [.ref 215, .int (z_b xb)] h (q_chg (.inl (some (.int (z_b xb)))) (fun h1 => z_Mr h1 215 (if xb then 0 else 1) al cg sv rs ac rj ro ad bf ln lz ip ty he er ea fa cm cn ∧ q_same h h1 215 8)) := by
  have e := e_mo_isFineR (g := g) (d := d) smo xb (by omega)
  cases xb <;> exact e
def x_mo_begins (al : Nat → Int32) : (Nat → Int32) := (x_cp al 0 10)
set_option maxRecDepth 100000 in
set_option maxHeartbeats 8000000 in
theorem e_mo_begins {g : q_G} {h : q_H} {d : Nat} {th : Int32} {al : Nat → Int32} {cg : Nat} {sv : Bool} {rs : Int32} {ac : Int32} {rj : Int32} {ro : Nat → Int32} {ad : Nat → Int32} {bf : Nat → Int32} {ln : Nat → Int32} {lz : Nat} {ip : Nat → Int32} {ty : Nat} {he : Nat} {er : Int32} {ea : Int32} {fa : Int32} {cm : Nat → Int32} {cn : Nat} (smo : z_Mr h 215 th al cg sv rs ac rj ro ad bf ln lz ip ty he er ea fa cm cn)     (hd : 1 ≤ d) : q_Spec g mX11_begins d 0 0 [.ref (215)] h (q_chg (.inl none) (fun h1 => z_Mr h1 215 th (x_mo_begins al) cg sv rs ac rj ro ad bf ln lz ip ty he er ea fa cm cn ∧ q_same h h1 215 8)) := by
  have hb_mo_cg := smo.bcg
  have hb_mo_lz := smo.blz
  have hb_mo_ty := smo.bty
  have hb_mo_he := smo.bhe
  have hb_mo_cn := smo.bcn
  have ho_mo_cg := smo.bcg
  have ho_mo_lz := smo.blz
  have ho_mo_ty := smo.bty
  have ho_mo_he := smo.bhe
  have ho_mo_cn := smo.bcn
  have p0 : q_same h h 215 8 := q_same.rfl'
  refine q_enter (by decide +kernel) rfl rfl (Nat.le_of_ble_eq_true rfl) (fun hz => ?_)
  change q_W _ _ _ _ _ _ _ _ _ [.ref (215)] [] _
  refine q_aload_n (by first | assumption | omega | decide | (rw [q_R0e]; omega)) dX11_begins_0 rfl ?_
  refine q_iconst (v := 0) dX11_begins_1 rfl ?_
  refine q_bipush (v := 10) dX11_begins_2 rfl ?_
  refine q_invV (mc' := 0) (ms' := 0) (d' := d - 1) (as := [.int (0), .int (10)]) dX11_begins_4 kM_X11_copies kL_X11_43 kI_X11_copies kS_X11_copies rfl (kC_X11.1) smo.c0 rfl rfl (Nat.le_of_ble_eq_true rfl) (by omega) (by decide) (by omega) (by omega) (e_cp (d := d - 1) smo 0 10 (by omega) (by omega) (by omega) (by omega)) (q_kC (fun h1 hB => ?_)) q_xC
  obtain ⟨t1_0, pp1⟩ := hB
  have smo1 : z_Mr h1 215 th (x_cp al 0 10) cg sv rs ac rj ro ad bf ln lz ip ty he er ea fa cm cn := t1_0
  have p1 := p0.trans (pp1.wide (by omega) (by omega))
  have hb_mo_cg := smo1.bcg
  have hb_mo_lz := smo1.blz
  have hb_mo_ty := smo1.bty
  have hb_mo_he := smo1.bhe
  have hb_mo_cn := smo1.bcn
  change q_W _ _ _ _ _ _ _ _ 7 [.ref (215)] [] _
  have hE : x_mo_begins al = (x_cp al 0 10) := by simp only [x_mo_begins]
  rw [hE]
  exact q_return dX11_begins_7 rfl (by omega) (by omega) ⟨rfl, smo1, p1⟩
def x_mo_ends_61  : Nat → Nat → (Nat → Int32) → (Nat → Int32)
  | 0, _, al_61 => al_61
  | r + 1, k, al_61 => x_mo_ends_61  r (k + 1) (x_cp al_61 (k + 1) k)
set_option maxRecDepth 100000 in
set_option maxHeartbeats 8000000 in
theorem l_mo_ends_61 {g : q_G} {h : q_H} {d mc ms kc ks : Nat} {Q : q_O → q_H → Prop} {cg : Nat} {sv : Bool} {rs : Int32} {ac : Int32} {rj : Int32} {ro : Nat → Int32} {ad : Nat → Int32} {bf : Nat → Int32} {ln : Nat → Int32} {lz : Nat} {ip : Nat → Int32} {ty : Nat} {he : Nat} {er : Int32} {ea : Int32} {fa : Int32} {cm : Nat → Int32} {cn : Nat}   (ho_mo_cg : cg ≤ 8) (ho_mo_lz : lz ≤ 160) (ho_mo_ty : ty ≤ 60) (ho_mo_he : he ≤ 60) (ho_mo_cn : cn ≤ 61) (b55 : cg = 8)  (hd : 1 ≤ d) (hkc : kc + 0 ≤ mc) (hks : ks + 0 ≤ ms) : ∀ (r k : Nat) (al_61 : Nat → Int32) (hh : q_H) (smo_61 : z_Mr hh 215 0 al_61 cg sv rs ac rj ro ad bf ln lz ip ty he er ea fa cm cn) (pH : q_same h hh 215 8) (hk_61 : k + r = 8) (K : ∀ (r61_0 : Nat → Int32), x_mo_ends_61  r k al_61 = r61_0 → ∀ h2, z_Mr h2 215 0 r61_0 cg sv rs ac rj ro ad bf ln lz ip ty he er ea fa cm cn → q_same h h2 215 8 → q_W g mX11_ends d mc ms Q kc ks 84 [.ref (215), q_u, q_u, q_u, q_u, q_u] [] h2), q_W g mX11_ends d mc ms Q kc ks 61 [.ref (215), q_u, q_u, q_u, q_u, .int (nI (k))] [] hh := by
  intro r
  induction r with
  | zero =>
    intro k al_61 hh smo_61 pH hk_61 K
    have hb_mo_cg := smo_61.bcg
    have hb_mo_lz := smo_61.blz
    have hb_mo_ty := smo_61.bty
    have hb_mo_he := smo_61.bhe
    have hb_mo_cn := smo_61.bcn
    refine q_iload dX11_ends_61 rfl ?_
    refine q_bipush (v := 8) dX11_ends_63 rfl ?_
    refine q_icmp_ge 84 dX11_ends_65 (by decide) (fun b65 => ?_) (fun b65 => ?_)
    · have b65 := (nI_leI (a := 8) (b := k) (by omega) (by omega)).mp b65
      refine q_forget 5 ?_
      change q_W _ _ _ _ _ _ _ _ _ [.ref (215), q_u, q_u, q_u, q_u, q_u] [] _
      exact K al_61 (by simp only [x_mo_ends_61]) hh smo_61 pH
    · have b65 : ¬ (8 ≤ k) := fun q => b65 ((nI_leI (a := 8) (b := k) (by omega) (by omega)).mpr q)
      exact absurd b65 (by omega)
  | succ r ih =>
    intro k al_61 hh smo_61 pH hk_61 K
    have hb_mo_cg := smo_61.bcg
    have hb_mo_lz := smo_61.blz
    have hb_mo_ty := smo_61.bty
    have hb_mo_he := smo_61.bhe
    have hb_mo_cn := smo_61.bcn
    refine q_iload dX11_ends_61 rfl ?_
    refine q_bipush (v := 8) dX11_ends_63 rfl ?_
    refine q_icmp_ge 84 dX11_ends_65 (by decide) (fun b65 => ?_) (fun b65 => ?_)
    · have b65 := (nI_leI (a := 8) (b := k) (by omega) (by omega)).mp b65
      exact absurd b65 (by omega)
    · have b65 : ¬ (8 ≤ k) := fun q => b65 ((nI_leI (a := 8) (b := k) (by omega) (by omega)).mpr q)
      refine q_aload_n (by first | assumption | omega | decide | (rw [q_R0e]; omega)) dX11_ends_68 rfl ?_
      refine q_iload dX11_ends_69 rfl ?_
      refine q_iconst (v := 1) dX11_ends_71 rfl ?_
      refine q_iaddN (a := k) (b := 1) dX11_ends_72 ?_
      change q_W _ _ _ _ _ _ _ _ _ _ [.int (nI (k + 1)), .ref (215)] _
      refine q_iload dX11_ends_73 rfl ?_
      refine q_invV (mc' := 0) (ms' := 0) (d' := d - 1) (as := [.int (nI (k + 1)), .int (nI (k))]) dX11_ends_75 kM_X11_copies kL_X11_43 kI_X11_copies kS_X11_copies rfl (kC_X11.1) smo_61.c0 rfl rfl (Nat.le_of_ble_eq_true rfl) (by omega) (by decide) (by omega) (by omega) (e_cp (d := d - 1) smo_61 (k + 1) k (by omega) (by omega) (by omega) (by omega)) (q_kC (fun h4 hB => ?_)) q_xC
      obtain ⟨t4_0, pp4⟩ := hB
      have smo4 : z_Mr h4 215 0 (x_cp al_61 (k + 1) k) cg sv rs ac rj ro ad bf ln lz ip ty he er ea fa cm cn := t4_0
      have p4 := pH.trans (pp4.wide (by omega) (by omega))
      have hb_mo_cg := smo4.bcg
      have hb_mo_lz := smo4.blz
      have hb_mo_ty := smo4.bty
      have hb_mo_he := smo4.bhe
      have hb_mo_cn := smo4.bcn
      change q_W _ _ _ _ _ _ _ _ 78 [.ref (215), q_u, q_u, q_u, q_u, .int (nI (k))] [] _
      refine q_iinc (x := nI (k)) (v := nI (k + 1)) dX11_ends_78 rfl (nI_add _ 1) rfl ?_
      change q_W _ _ _ _ _ _ _ _ _ [.ref (215), q_u, q_u, q_u, q_u, .int (nI (k + 1))] [] _
      refine q_goto 61 dX11_ends_81 (by decide) ?_
      change q_W _ _ _ _ _ _ _ _ _ [.ref (215), q_u, q_u, q_u, q_u, .int (nI (k + 1))] [] _
      exact ih (k + 1) (x_cp al_61 (k + 1) k) h4 smo4 p4 (by omega) (fun r61_0 e9 => K r61_0 (by simp only [x_mo_ends_61]; exact e9))
def x_mo_ends_61_2  : Nat → Nat → (Nat → Int32) → (Nat → Int32)
  | 0, _, al_61 => al_61
  | r + 1, kk, al_61 => x_mo_ends_61_2  r (kk + 1) (x_cp al_61 (kk + 1) kk)
set_option maxRecDepth 100000 in
set_option maxHeartbeats 8000000 in
theorem l_mo_ends_61_2 {g : q_G} {h : q_H} {d mc ms kc ks : Nat} {Q : q_O → q_H → Prop} {cg : Nat} {sv : Bool} {rs : Int32} {ac : Int32} {rj : Int32} {ro : Nat → Int32} {ad : Nat → Int32} {bf : Nat → Int32} {ln : Nat → Int32} {lz : Nat} {ip : Nat → Int32} {ty : Nat} {he : Nat} {er : Int32} {ea : Int32} {fa : Int32} {cm : Nat → Int32} {cn : Nat} {x3 : Int32}   (ho_mo_cg : cg ≤ 8) (ho_mo_lz : lz ≤ 160) (ho_mo_ty : ty ≤ 60) (ho_mo_he : he ≤ 60) (ho_mo_cn : cn ≤ 61) (b55 : cg = 8)  (hd : 1 ≤ d) (hkc : kc + 0 ≤ mc) (hks : ks + 0 ≤ ms) : ∀ (r kk : Nat) (al_61 : Nat → Int32) (hh : q_H) (smo_61 : z_Mr hh 215 x3 al_61 cg sv rs ac rj ro ad bf ln lz ip ty he er ea fa cm cn) (pH : q_same h hh 215 8) (hk_61 : kk + r = 8) (K : ∀ (r61_0 : Nat → Int32), x_mo_ends_61_2  r kk al_61 = r61_0 → ∀ h2, z_Mr h2 215 x3 r61_0 cg sv rs ac rj ro ad bf ln lz ip ty he er ea fa cm cn → q_same h h2 215 8 → q_W g mX11_ends d mc ms Q kc ks 84 [.ref (215), q_u, q_u, q_u, q_u, q_u] [] h2), q_W g mX11_ends d mc ms Q kc ks 61 [.ref (215), q_u, q_u, q_u, q_u, .int (nI (kk))] [] hh := by
  intro r
  induction r with
  | zero =>
    intro kk al_61 hh smo_61 pH hk_61 K
    have hb_mo_cg := smo_61.bcg
    have hb_mo_lz := smo_61.blz
    have hb_mo_ty := smo_61.bty
    have hb_mo_he := smo_61.bhe
    have hb_mo_cn := smo_61.bcn
    refine q_iload dX11_ends_61 rfl ?_
    refine q_bipush (v := 8) dX11_ends_63 rfl ?_
    refine q_icmp_ge 84 dX11_ends_65 (by decide) (fun b65 => ?_) (fun b65 => ?_)
    · have b65 := (nI_leI (a := 8) (b := kk) (by omega) (by omega)).mp b65
      refine q_forget 5 ?_
      change q_W _ _ _ _ _ _ _ _ _ [.ref (215), q_u, q_u, q_u, q_u, q_u] [] _
      exact K al_61 (by simp only [x_mo_ends_61_2]) hh smo_61 pH
    · have b65 : ¬ (8 ≤ kk) := fun q => b65 ((nI_leI (a := 8) (b := kk) (by omega) (by omega)).mpr q)
      exact absurd b65 (by omega)
  | succ r ih =>
    intro kk al_61 hh smo_61 pH hk_61 K
    have hb_mo_cg := smo_61.bcg
    have hb_mo_lz := smo_61.blz
    have hb_mo_ty := smo_61.bty
    have hb_mo_he := smo_61.bhe
    have hb_mo_cn := smo_61.bcn
    refine q_iload dX11_ends_61 rfl ?_
    refine q_bipush (v := 8) dX11_ends_63 rfl ?_
    refine q_icmp_ge 84 dX11_ends_65 (by decide) (fun b65 => ?_) (fun b65 => ?_)
    · have b65 := (nI_leI (a := 8) (b := kk) (by omega) (by omega)).mp b65
      exact absurd b65 (by omega)
    · have b65 : ¬ (8 ≤ kk) := fun q => b65 ((nI_leI (a := 8) (b := kk) (by omega) (by omega)).mpr q)
      refine q_aload_n (by first | assumption | omega | decide | (rw [q_R0e]; omega)) dX11_ends_68 rfl ?_
      refine q_iload dX11_ends_69 rfl ?_
      refine q_iconst (v := 1) dX11_ends_71 rfl ?_
      refine q_iaddN (a := kk) (b := 1) dX11_ends_72 ?_
      change q_W _ _ _ _ _ _ _ _ _ _ [.int (nI (kk + 1)), .ref (215)] _
      refine q_iload dX11_ends_73 rfl ?_
      refine q_invV (mc' := 0) (ms' := 0) (d' := d - 1) (as := [.int (nI (kk + 1)), .int (nI (kk))]) dX11_ends_75 kM_X11_copies kL_X11_43 kI_X11_copies kS_X11_copies rfl (kC_X11.1) smo_61.c0 rfl rfl (Nat.le_of_ble_eq_true rfl) (by omega) (by decide) (by omega) (by omega) (e_cp (d := d - 1) smo_61 (kk + 1) kk (by omega) (by omega) (by omega) (by omega)) (q_kC (fun h13 hB => ?_)) q_xC
      obtain ⟨t13_0, pp13⟩ := hB
      have smo13 : z_Mr h13 215 x3 (x_cp al_61 (kk + 1) kk) cg sv rs ac rj ro ad bf ln lz ip ty he er ea fa cm cn := t13_0
      have p13 := pH.trans (pp13.wide (by omega) (by omega))
      have hb_mo_cg := smo13.bcg
      have hb_mo_lz := smo13.blz
      have hb_mo_ty := smo13.bty
      have hb_mo_he := smo13.bhe
      have hb_mo_cn := smo13.bcn
      change q_W _ _ _ _ _ _ _ _ 78 [.ref (215), q_u, q_u, q_u, q_u, .int (nI (kk))] [] _
      refine q_iinc (x := nI (kk)) (v := nI (kk + 1)) dX11_ends_78 rfl (nI_add _ 1) rfl ?_
      change q_W _ _ _ _ _ _ _ _ _ [.ref (215), q_u, q_u, q_u, q_u, .int (nI (kk + 1))] [] _
      refine q_goto 61 dX11_ends_81 (by decide) ?_
      change q_W _ _ _ _ _ _ _ _ _ [.ref (215), q_u, q_u, q_u, q_u, .int (nI (kk + 1))] [] _
      exact ih (kk + 1) (x_cp al_61 (kk + 1) kk) h13 smo13 p13 (by omega) (fun r61_0 e9 => K r61_0 (by simp only [x_mo_ends_61_2]; exact e9))
def x_mo_ends_61_3  : Nat → Nat → (Nat → Int32) → (Nat → Int32)
  | 0, _, al_61 => al_61
  | r + 1, kkk, al_61 => x_mo_ends_61_3  r (kkk + 1) (x_cp al_61 (kkk + 1) kkk)
set_option maxRecDepth 100000 in
set_option maxHeartbeats 8000000 in
theorem l_mo_ends_61_3 {g : q_G} {h : q_H} {d mc ms kc ks : Nat} {Q : q_O → q_H → Prop} {cg : Nat} {sv : Bool} {rs : Int32} {ac : Int32} {rj : Int32} {ro : Nat → Int32} {ad : Nat → Int32} {bf : Nat → Int32} {ln : Nat → Int32} {lz : Nat} {ip : Nat → Int32} {ty : Nat} {he : Nat} {er : Int32} {ea : Int32} {fa : Int32} {cm : Nat → Int32} {cn : Nat} {x2 : Int32}   (ho_mo_cg : cg ≤ 8) (ho_mo_lz : lz ≤ 160) (ho_mo_ty : ty ≤ 60) (ho_mo_he : he ≤ 60) (ho_mo_cn : cn ≤ 61) (b55 : cg = 8)  (hd : 1 ≤ d) (hkc : kc + 0 ≤ mc) (hks : ks + 0 ≤ ms) : ∀ (r kkk : Nat) (al_61 : Nat → Int32) (hh : q_H) (smo_61 : z_Mr hh 215 x2 al_61 cg sv rs ac rj ro ad bf ln lz ip ty he er ea fa cm cn) (pH : q_same h hh 215 8) (hk_61 : kkk + r = 8) (K : ∀ (r61_0 : Nat → Int32), x_mo_ends_61_3  r kkk al_61 = r61_0 → ∀ h2, z_Mr h2 215 x2 r61_0 cg sv rs ac rj ro ad bf ln lz ip ty he er ea fa cm cn → q_same h h2 215 8 → q_W g mX11_ends d mc ms Q kc ks 84 [.ref (215), q_u, q_u, q_u, q_u, q_u] [] h2), q_W g mX11_ends d mc ms Q kc ks 61 [.ref (215), q_u, q_u, q_u, q_u, .int (nI (kkk))] [] hh := by
  intro r
  induction r with
  | zero =>
    intro kkk al_61 hh smo_61 pH hk_61 K
    have hb_mo_cg := smo_61.bcg
    have hb_mo_lz := smo_61.blz
    have hb_mo_ty := smo_61.bty
    have hb_mo_he := smo_61.bhe
    have hb_mo_cn := smo_61.bcn
    refine q_iload dX11_ends_61 rfl ?_
    refine q_bipush (v := 8) dX11_ends_63 rfl ?_
    refine q_icmp_ge 84 dX11_ends_65 (by decide) (fun b65 => ?_) (fun b65 => ?_)
    · have b65 := (nI_leI (a := 8) (b := kkk) (by omega) (by omega)).mp b65
      refine q_forget 5 ?_
      change q_W _ _ _ _ _ _ _ _ _ [.ref (215), q_u, q_u, q_u, q_u, q_u] [] _
      exact K al_61 (by simp only [x_mo_ends_61_3]) hh smo_61 pH
    · have b65 : ¬ (8 ≤ kkk) := fun q => b65 ((nI_leI (a := 8) (b := kkk) (by omega) (by omega)).mpr q)
      exact absurd b65 (by omega)
  | succ r ih =>
    intro kkk al_61 hh smo_61 pH hk_61 K
    have hb_mo_cg := smo_61.bcg
    have hb_mo_lz := smo_61.blz
    have hb_mo_ty := smo_61.bty
    have hb_mo_he := smo_61.bhe
    have hb_mo_cn := smo_61.bcn
    refine q_iload dX11_ends_61 rfl ?_
    refine q_bipush (v := 8) dX11_ends_63 rfl ?_
    refine q_icmp_ge 84 dX11_ends_65 (by decide) (fun b65 => ?_) (fun b65 => ?_)
    · have b65 := (nI_leI (a := 8) (b := kkk) (by omega) (by omega)).mp b65
      exact absurd b65 (by omega)
    · have b65 : ¬ (8 ≤ kkk) := fun q => b65 ((nI_leI (a := 8) (b := kkk) (by omega) (by omega)).mpr q)
      refine q_aload_n (by first | assumption | omega | decide | (rw [q_R0e]; omega)) dX11_ends_68 rfl ?_
      refine q_iload dX11_ends_69 rfl ?_
      refine q_iconst (v := 1) dX11_ends_71 rfl ?_
      refine q_iaddN (a := kkk) (b := 1) dX11_ends_72 ?_
      change q_W _ _ _ _ _ _ _ _ _ _ [.int (nI (kkk + 1)), .ref (215)] _
      refine q_iload dX11_ends_73 rfl ?_
      refine q_invV (mc' := 0) (ms' := 0) (d' := d - 1) (as := [.int (nI (kkk + 1)), .int (nI (kkk))]) dX11_ends_75 kM_X11_copies kL_X11_43 kI_X11_copies kS_X11_copies rfl (kC_X11.1) smo_61.c0 rfl rfl (Nat.le_of_ble_eq_true rfl) (by omega) (by decide) (by omega) (by omega) (e_cp (d := d - 1) smo_61 (kkk + 1) kkk (by omega) (by omega) (by omega) (by omega)) (q_kC (fun h23 hB => ?_)) q_xC
      obtain ⟨t23_0, pp23⟩ := hB
      have smo23 : z_Mr h23 215 x2 (x_cp al_61 (kkk + 1) kkk) cg sv rs ac rj ro ad bf ln lz ip ty he er ea fa cm cn := t23_0
      have p23 := pH.trans (pp23.wide (by omega) (by omega))
      have hb_mo_cg := smo23.bcg
      have hb_mo_lz := smo23.blz
      have hb_mo_ty := smo23.bty
      have hb_mo_he := smo23.bhe
      have hb_mo_cn := smo23.bcn
      change q_W _ _ _ _ _ _ _ _ 78 [.ref (215), q_u, q_u, q_u, q_u, .int (nI (kkk))] [] _
      refine q_iinc (x := nI (kkk)) (v := nI (kkk + 1)) dX11_ends_78 rfl (nI_add _ 1) rfl ?_
      change q_W _ _ _ _ _ _ _ _ _ [.ref (215), q_u, q_u, q_u, q_u, .int (nI (kkk + 1))] [] _
      refine q_goto 61 dX11_ends_81 (by decide) ?_
      change q_W _ _ _ _ _ _ _ _ _ [.ref (215), q_u, q_u, q_u, q_u, .int (nI (kkk + 1))] [] _
      exact ih (kkk + 1) (x_cp al_61 (kkk + 1) kkk) h23 smo23 p23 (by omega) (fun r61_0 e9 => K r61_0 (by simp only [x_mo_ends_61_3]; exact e9))
def x_mo_ends_61_4  : Nat → Nat → (Nat → Int32) → (Nat → Int32)
  | 0, _, al_61 => al_61
  | r + 1, kkkk, al_61 => x_mo_ends_61_4  r (kkkk + 1) (x_cp al_61 (kkkk + 1) kkkk)
set_option maxRecDepth 100000 in
set_option maxHeartbeats 8000000 in
theorem l_mo_ends_61_4 {g : q_G} {h : q_H} {d mc ms kc ks : Nat} {Q : q_O → q_H → Prop} {cg : Nat} {sv : Bool} {rs : Int32} {ac : Int32} {rj : Int32} {ro : Nat → Int32} {ad : Nat → Int32} {bf : Nat → Int32} {ln : Nat → Int32} {lz : Nat} {ip : Nat → Int32} {ty : Nat} {he : Nat} {er : Int32} {ea : Int32} {fa : Int32} {cm : Nat → Int32} {cn : Nat} {x1 : Int32}   (ho_mo_cg : cg ≤ 8) (ho_mo_lz : lz ≤ 160) (ho_mo_ty : ty ≤ 60) (ho_mo_he : he ≤ 60) (ho_mo_cn : cn ≤ 61) (b55 : cg = 8)  (hd : 1 ≤ d) (hkc : kc + 0 ≤ mc) (hks : ks + 0 ≤ ms) : ∀ (r kkkk : Nat) (al_61 : Nat → Int32) (hh : q_H) (smo_61 : z_Mr hh 215 x1 al_61 cg sv rs ac rj ro ad bf ln lz ip ty he er ea fa cm cn) (pH : q_same h hh 215 8) (hk_61 : kkkk + r = 8) (K : ∀ (r61_0 : Nat → Int32), x_mo_ends_61_4  r kkkk al_61 = r61_0 → ∀ h2, z_Mr h2 215 x1 r61_0 cg sv rs ac rj ro ad bf ln lz ip ty he er ea fa cm cn → q_same h h2 215 8 → q_W g mX11_ends d mc ms Q kc ks 84 [.ref (215), q_u, q_u, q_u, q_u, q_u] [] h2), q_W g mX11_ends d mc ms Q kc ks 61 [.ref (215), q_u, q_u, q_u, q_u, .int (nI (kkkk))] [] hh := by
  intro r
  induction r with
  | zero =>
    intro kkkk al_61 hh smo_61 pH hk_61 K
    have hb_mo_cg := smo_61.bcg
    have hb_mo_lz := smo_61.blz
    have hb_mo_ty := smo_61.bty
    have hb_mo_he := smo_61.bhe
    have hb_mo_cn := smo_61.bcn
    refine q_iload dX11_ends_61 rfl ?_
    refine q_bipush (v := 8) dX11_ends_63 rfl ?_
    refine q_icmp_ge 84 dX11_ends_65 (by decide) (fun b65 => ?_) (fun b65 => ?_)
    · have b65 := (nI_leI (a := 8) (b := kkkk) (by omega) (by omega)).mp b65
      refine q_forget 5 ?_
      change q_W _ _ _ _ _ _ _ _ _ [.ref (215), q_u, q_u, q_u, q_u, q_u] [] _
      exact K al_61 (by simp only [x_mo_ends_61_4]) hh smo_61 pH
    · have b65 : ¬ (8 ≤ kkkk) := fun q => b65 ((nI_leI (a := 8) (b := kkkk) (by omega) (by omega)).mpr q)
      exact absurd b65 (by omega)
  | succ r ih =>
    intro kkkk al_61 hh smo_61 pH hk_61 K
    have hb_mo_cg := smo_61.bcg
    have hb_mo_lz := smo_61.blz
    have hb_mo_ty := smo_61.bty
    have hb_mo_he := smo_61.bhe
    have hb_mo_cn := smo_61.bcn
    refine q_iload dX11_ends_61 rfl ?_
    refine q_bipush (v := 8) dX11_ends_63 rfl ?_
    refine q_icmp_ge 84 dX11_ends_65 (by decide) (fun b65 => ?_) (fun b65 => ?_)
    · have b65 := (nI_leI (a := 8) (b := kkkk) (by omega) (by omega)).mp b65
      exact absurd b65 (by omega)
    · have b65 : ¬ (8 ≤ kkkk) := fun q => b65 ((nI_leI (a := 8) (b := kkkk) (by omega) (by omega)).mpr q)
      refine q_aload_n (by first | assumption | omega | decide | (rw [q_R0e]; omega)) dX11_ends_68 rfl ?_
      refine q_iload dX11_ends_69 rfl ?_
      refine q_iconst (v := 1) dX11_ends_71 rfl ?_
      refine q_iaddN (a := kkkk) (b := 1) dX11_ends_72 ?_
      change q_W _ _ _ _ _ _ _ _ _ _ [.int (nI (kkkk + 1)), .ref (215)] _
      refine q_iload dX11_ends_73 rfl ?_
      refine q_invV (mc' := 0) (ms' := 0) (d' := d - 1) (as := [.int (nI (kkkk + 1)), .int (nI (kkkk))]) dX11_ends_75 kM_X11_copies kL_X11_43 kI_X11_copies kS_X11_copies rfl (kC_X11.1) smo_61.c0 rfl rfl (Nat.le_of_ble_eq_true rfl) (by omega) (by decide) (by omega) (by omega) (e_cp (d := d - 1) smo_61 (kkkk + 1) kkkk (by omega) (by omega) (by omega) (by omega)) (q_kC (fun h33 hB => ?_)) q_xC
      obtain ⟨t33_0, pp33⟩ := hB
      have smo33 : z_Mr h33 215 x1 (x_cp al_61 (kkkk + 1) kkkk) cg sv rs ac rj ro ad bf ln lz ip ty he er ea fa cm cn := t33_0
      have p33 := pH.trans (pp33.wide (by omega) (by omega))
      have hb_mo_cg := smo33.bcg
      have hb_mo_lz := smo33.blz
      have hb_mo_ty := smo33.bty
      have hb_mo_he := smo33.bhe
      have hb_mo_cn := smo33.bcn
      change q_W _ _ _ _ _ _ _ _ 78 [.ref (215), q_u, q_u, q_u, q_u, .int (nI (kkkk))] [] _
      refine q_iinc (x := nI (kkkk)) (v := nI (kkkk + 1)) dX11_ends_78 rfl (nI_add _ 1) rfl ?_
      change q_W _ _ _ _ _ _ _ _ _ [.ref (215), q_u, q_u, q_u, q_u, .int (nI (kkkk + 1))] [] _
      refine q_goto 61 dX11_ends_81 (by decide) ?_
      change q_W _ _ _ _ _ _ _ _ _ [.ref (215), q_u, q_u, q_u, q_u, .int (nI (kkkk + 1))] [] _
      exact ih (kkkk + 1) (x_cp al_61 (kkkk + 1) kkkk) h33 smo33 p33 (by omega) (fun r61_0 e9 => K r61_0 (by simp only [x_mo_ends_61_4]; exact e9))
def x_mo_ends (al : Nat → Int32) (cg : Nat) (rs : Int32) (xb : Int32) (x1 : Int32) (x2 : Int32) (x3 : Int32) : (Int32) × (Int32) × (Nat → Int32) × (Nat) := (if (xb) = (1) then (if (x1) = (0) then (if cg = 8 then (let a34_0 := x_mo_ends_61_4 7 1 al; (rs, x1, x_cp a34_0 10 (cg - 1 + 1), cg - 1 + 1)) else (rs, x1, x_cp al 10 (cg + 1), cg + 1)) else (0, x1, x_cp al 10 0, cg)) else (if (xb) = (2) then (if (x2) = (0) then (if cg = 8 then (let a24_0 := x_mo_ends_61_3 7 1 al; (rs, x2, x_cp a24_0 10 (cg - 1 + 1), cg - 1 + 1)) else (rs, x2, x_cp al 10 (cg + 1), cg + 1)) else (0, x2, x_cp al 10 0, cg)) else (if (xb) = (3) then (if (x3) = (0) then (if cg = 8 then (let a14_0 := x_mo_ends_61_2 7 1 al; (rs, x3, x_cp a14_0 10 (cg - 1 + 1), cg - 1 + 1)) else (rs, x3, x_cp al 10 (cg + 1), cg + 1)) else (0, x3, x_cp al 10 0, cg)) else (if cg = 8 then (let a5_0 := x_mo_ends_61 7 1 al; (rs, 0, x_cp a5_0 10 (cg - 1 + 1), cg - 1 + 1)) else (rs, 0, x_cp al 10 (cg + 1), cg + 1)))))
set_option maxRecDepth 100000 in
set_option maxHeartbeats 8000000 in
theorem e_mo_ends {g : q_G} {h : q_H} {d : Nat} {th : Int32} {al : Nat → Int32} {cg : Nat} {sv : Bool} {rs : Int32} {ac : Int32} {rj : Int32} {ro : Nat → Int32} {ad : Nat → Int32} {bf : Nat → Int32} {ln : Nat → Int32} {lz : Nat} {ip : Nat → Int32} {ty : Nat} {he : Nat} {er : Int32} {ea : Int32} {fa : Int32} {cm : Nat → Int32} {cn : Nat} (smo : z_Mr h 215 th al cg sv rs ac rj ro ad bf ln lz ip ty he er ea fa cm cn)  (xb : Int32) (x1 : Int32) (x2 : Int32) (x3 : Int32)   (hd : 1 ≤ d) : q_Spec g mX11_ends d 0 0 [.ref (215), .int (xb), .int (x1), .int (x2), .int (x3)] h (q_chg (.inl (some (.int (x_mo_ends al cg rs xb x1 x2 x3).1))) (fun h1 => z_Mr h1 215 ((x_mo_ends al cg rs xb x1 x2 x3).2.1) ((x_mo_ends al cg rs xb x1 x2 x3).2.2.1) ((x_mo_ends al cg rs xb x1 x2 x3).2.2.2) sv rs ac rj ro ad bf ln lz ip ty he er ea fa cm cn ∧ q_same h h1 215 8)) := by
  have hb_mo_cg := smo.bcg
  have hb_mo_lz := smo.blz
  have hb_mo_ty := smo.bty
  have hb_mo_he := smo.bhe
  have hb_mo_cn := smo.bcn
  have ho_mo_cg := smo.bcg
  have ho_mo_lz := smo.blz
  have ho_mo_ty := smo.bty
  have ho_mo_he := smo.bhe
  have ho_mo_cn := smo.bcn
  have p0 : q_same h h 215 8 := q_same.rfl'
  refine q_enter (by decide +kernel) rfl rfl (Nat.le_of_ble_eq_true rfl) (fun hz => ?_)
  change q_W _ _ _ _ _ _ _ _ _ [.ref (215), .int (xb), .int (x1), .int (x2), .int (x3), q_u] [] _
  refine q_aload_n (by first | assumption | omega | decide | (rw [q_R0e]; omega)) dX11_ends_0 rfl ?_
  refine q_iload_n dX11_ends_1 rfl ?_
  refine q_iconst (v := 1) dX11_ends_2 rfl ?_
  refine q_icmp_ne 10 dX11_ends_3 (by decide) (fun b3 => ?_) (fun b3 => ?_)
  · refine q_iload_n dX11_ends_10 rfl ?_
    refine q_iconst (v := 2) dX11_ends_11 rfl ?_
    refine q_icmp_ne 19 dX11_ends_12 (by decide) (fun b12 => ?_) (fun b12 => ?_)
    · refine q_iload_n dX11_ends_19 rfl ?_
      refine q_iconst (v := 3) dX11_ends_20 rfl ?_
      refine q_icmp_ne 29 dX11_ends_21 (by decide) (fun b21 => ?_) (fun b21 => ?_)
      · refine q_iconst (v := 0) dX11_ends_29 rfl ?_
        refine q_putf (k := 0) kC_X11 kL_X11_40 rfl (by decide) rfl dX11_ends_30 smo.c0 (Nat.le_of_ble_eq_true rfl) ⟨rfl, rfl⟩ rfl ?_
        refine z_genW (B := fun H => z_Mr H 215 0 al cg sv rs ac rj ro ad bf ln lz ip ty he er ea fa cm cn ∧ q_same h H 215 8) ⟨z_Mr.put0 smo (cg' := cg) (sv' := sv) (lz' := lz) (ty' := ty) (he' := he) (cn' := cn) (hbcg := by first | omega | (split <;> omega)) (hblz := by first | omega | (split <;> omega)) (hbty := by first | omega | (split <;> omega)) (hbhe := by first | omega | (split <;> omega)) (hbcn := by first | omega | (split <;> omega)), p0.trans (q_same.set (by omega) (by omega))⟩ (fun h1 hB => ?_)
        obtain ⟨smo1, p1⟩ := hB
        have hb_mo_cg := smo1.bcg
        have hb_mo_lz := smo1.blz
        have hb_mo_ty := smo1.bty
        have hb_mo_he := smo1.bhe
        have hb_mo_cn := smo1.bcn
        refine q_aload_n (by first | assumption | omega | decide | (rw [q_R0e]; omega)) dX11_ends_33 rfl ?_
        refine q_getf (k := 0) (v := .int (0)) kC_X11 kL_X11_40 rfl (by decide) dX11_ends_34 smo1.c0 rfl ?_
        refine q_if_eq 49 dX11_ends_37 (by decide) (fun b37 => ?_) (fun b37 => ?_)
        · refine q_aload_n (by first | assumption | omega | decide | (rw [q_R0e]; omega)) dX11_ends_49 rfl ?_
          refine q_getf (k := 2) (v := .int (nI (cg))) kC_X11 kL_X11_47 rfl (by decide) dX11_ends_50 smo1.c0 rfl ?_
          refine q_bipush (v := 8) dX11_ends_53 rfl ?_
          refine q_icmp_ne 94 dX11_ends_55 (by decide) (fun b55 => ?_) (fun b55 => ?_)
          · have b55 : ¬ (cg = 8) := fun q => b55 ((nI_eq (a := cg) (b := 8) (by omega) (by omega)).mpr q)
            refine q_aload_n (by first | assumption | omega | decide | (rw [q_R0e]; omega)) dX11_ends_94 rfl ?_
            refine q_dup dX11_ends_95 rfl ?_
            refine q_getf (k := 2) (v := .int (nI (cg))) kC_X11 kL_X11_47 rfl (by decide) dX11_ends_96 smo1.c0 rfl ?_
            refine q_iconst (v := 1) dX11_ends_99 rfl ?_
            refine q_iaddN (a := cg) (b := 1) dX11_ends_100 ?_
            change q_W _ _ _ _ _ _ _ _ _ _ [.int (nI (cg + 1)), .ref (215)] _
            refine q_putf (k := 2) kC_X11 kL_X11_47 rfl (by decide) rfl dX11_ends_101 smo1.c0 (Nat.le_of_ble_eq_true rfl) ⟨rfl, rfl⟩ rfl ?_
            refine z_genW (B := fun H => z_Mr H 215 0 al (cg + 1) sv rs ac rj ro ad bf ln lz ip ty he er ea fa cm cn ∧ q_same h H 215 8) ⟨z_Mr.put0 smo1 (cg' := cg + 1) (sv' := sv) (lz' := lz) (ty' := ty) (he' := he) (cn' := cn) (hbcg := by first | omega | (split <;> omega)) (hblz := by first | omega | (split <;> omega)) (hbty := by first | omega | (split <;> omega)) (hbhe := by first | omega | (split <;> omega)) (hbcn := by first | omega | (split <;> omega)), p1.trans (q_same.set (by omega) (by omega))⟩ (fun h2 hB => ?_)
            obtain ⟨smo2, p2⟩ := hB
            have hb_mo_cg := smo2.bcg
            have hb_mo_lz := smo2.blz
            have hb_mo_ty := smo2.bty
            have hb_mo_he := smo2.bhe
            have hb_mo_cn := smo2.bcn
            refine q_aload_n (by first | assumption | omega | decide | (rw [q_R0e]; omega)) dX11_ends_104 rfl ?_
            refine q_bipush (v := 10) dX11_ends_105 rfl ?_
            refine q_aload_n (by first | assumption | omega | decide | (rw [q_R0e]; omega)) dX11_ends_107 rfl ?_
            refine q_getf (k := 2) (v := .int (nI (cg + 1))) kC_X11 kL_X11_47 rfl (by decide) dX11_ends_108 smo2.c0 rfl ?_
            refine q_invV (mc' := 0) (ms' := 0) (d' := d - 1) (as := [.int (10), .int (nI (cg + 1))]) dX11_ends_111 kM_X11_copies kL_X11_43 kI_X11_copies kS_X11_copies rfl (kC_X11.1) smo2.c0 rfl rfl (Nat.le_of_ble_eq_true rfl) (by omega) (by decide) (by omega) (by omega) (e_cp (d := d - 1) smo2 10 (cg + 1) (by omega) (by omega) (by omega) (by omega)) (q_kC (fun h3 hB => ?_)) q_xC
            obtain ⟨t3_0, pp3⟩ := hB
            have smo3 : z_Mr h3 215 0 (x_cp al 10 (cg + 1)) (cg + 1) sv rs ac rj ro ad bf ln lz ip ty he er ea fa cm cn := t3_0
            have p3 := p2.trans (pp3.wide (by omega) (by omega))
            have hb_mo_cg := smo3.bcg
            have hb_mo_lz := smo3.blz
            have hb_mo_ty := smo3.bty
            have hb_mo_he := smo3.bhe
            have hb_mo_cn := smo3.bcn
            change q_W _ _ _ _ _ _ _ _ 114 [.ref (215), .int (xb), .int (x1), .int (x2), .int (x3), q_u] [] _
            refine q_aload_n (by first | assumption | omega | decide | (rw [q_R0e]; omega)) dX11_ends_114 rfl ?_
            refine q_getf (k := 4) (v := .int (rs)) kC_X11 kL_X11_50 rfl (by decide) dX11_ends_115 smo3.c0 rfl ?_
            have hE : x_mo_ends al cg rs xb x1 x2 x3 = (rs, 0, x_cp al 10 (cg + 1), cg + 1) := by simp only [x_mo_ends, if_neg b3, if_neg b12, if_neg b21, if_neg b55]
            rw [hE]
            exact q_ireturn dX11_ends_118 rfl rfl (by omega) (by omega) ⟨rfl, smo3, p3⟩
          · have b55 := (nI_eq (a := cg) (b := 8) (by omega) (by omega)).mp b55
            refine q_iconst (v := 1) dX11_ends_58 rfl ?_
            refine q_istore dX11_ends_59 (by decide) rfl ?_
            change q_W _ _ _ _ _ _ _ _ _ [.ref (215), .int (xb), .int (x1), .int (x2), .int (x3), .int (1)] [] _
            refine q_forget 1 ?_
            refine q_forget 2 ?_
            refine q_forget 3 ?_
            refine q_forget 4 ?_
            change q_W _ _ _ _ _ _ _ _ _ [.ref (215), q_u, q_u, q_u, q_u, .int (1)] [] _
            refine l_mo_ends_61 ho_mo_cg ho_mo_lz ho_mo_ty ho_mo_he ho_mo_cn b55 (by omega) (by omega) (by omega) 7 1 al h1 smo1 p1 (by omega) (fun a5_0 x5 h6 smo6 p6 => ?_)
            have hb_mo_cg := smo6.bcg
            have hb_mo_lz := smo6.blz
            have hb_mo_ty := smo6.bty
            have hb_mo_he := smo6.bhe
            have hb_mo_cn := smo6.bcn
            change q_W _ _ _ _ _ _ _ _ 84 [.ref (215), q_u, q_u, q_u, q_u, q_u] [] _
            refine q_aload_n (by first | assumption | omega | decide | (rw [q_R0e]; omega)) dX11_ends_84 rfl ?_
            refine q_dup dX11_ends_85 rfl ?_
            refine q_getf (k := 2) (v := .int (nI (cg))) kC_X11 kL_X11_47 rfl (by decide) dX11_ends_86 smo6.c0 rfl ?_
            refine q_iconst (v := 1) dX11_ends_89 rfl ?_
            refine q_isubN (a := cg) (b := 1) (by omega) dX11_ends_90 ?_
            refine q_putf (k := 2) kC_X11 kL_X11_47 rfl (by decide) rfl dX11_ends_91 smo6.c0 (Nat.le_of_ble_eq_true rfl) ⟨rfl, rfl⟩ rfl ?_
            refine z_genW (B := fun H => z_Mr H 215 0 a5_0 (cg - 1) sv rs ac rj ro ad bf ln lz ip ty he er ea fa cm cn ∧ q_same h H 215 8) ⟨z_Mr.put0 smo6 (cg' := cg - 1) (sv' := sv) (lz' := lz) (ty' := ty) (he' := he) (cn' := cn) (hbcg := by first | omega | (split <;> omega)) (hblz := by first | omega | (split <;> omega)) (hbty := by first | omega | (split <;> omega)) (hbhe := by first | omega | (split <;> omega)) (hbcn := by first | omega | (split <;> omega)), p6.trans (q_same.set (by omega) (by omega))⟩ (fun h7 hB => ?_)
            obtain ⟨smo7, p7⟩ := hB
            have hb_mo_cg := smo7.bcg
            have hb_mo_lz := smo7.blz
            have hb_mo_ty := smo7.bty
            have hb_mo_he := smo7.bhe
            have hb_mo_cn := smo7.bcn
            refine q_aload_n (by first | assumption | omega | decide | (rw [q_R0e]; omega)) dX11_ends_94 rfl ?_
            refine q_dup dX11_ends_95 rfl ?_
            refine q_getf (k := 2) (v := .int (nI (cg - 1))) kC_X11 kL_X11_47 rfl (by decide) dX11_ends_96 smo7.c0 rfl ?_
            refine q_iconst (v := 1) dX11_ends_99 rfl ?_
            refine q_iaddN (a := cg - 1) (b := 1) dX11_ends_100 ?_
            change q_W _ _ _ _ _ _ _ _ _ _ [.int (nI (cg - 1 + 1)), .ref (215)] _
            refine q_putf (k := 2) kC_X11 kL_X11_47 rfl (by decide) rfl dX11_ends_101 smo7.c0 (Nat.le_of_ble_eq_true rfl) ⟨rfl, rfl⟩ rfl ?_
            refine z_genW (B := fun H => z_Mr H 215 0 a5_0 (cg - 1 + 1) sv rs ac rj ro ad bf ln lz ip ty he er ea fa cm cn ∧ q_same h H 215 8) ⟨z_Mr.put0 smo7 (cg' := cg - 1 + 1) (sv' := sv) (lz' := lz) (ty' := ty) (he' := he) (cn' := cn) (hbcg := by first | omega | (split <;> omega)) (hblz := by first | omega | (split <;> omega)) (hbty := by first | omega | (split <;> omega)) (hbhe := by first | omega | (split <;> omega)) (hbcn := by first | omega | (split <;> omega)), p7.trans (q_same.set (by omega) (by omega))⟩ (fun h8 hB => ?_)
            obtain ⟨smo8, p8⟩ := hB
            have hb_mo_cg := smo8.bcg
            have hb_mo_lz := smo8.blz
            have hb_mo_ty := smo8.bty
            have hb_mo_he := smo8.bhe
            have hb_mo_cn := smo8.bcn
            refine q_aload_n (by first | assumption | omega | decide | (rw [q_R0e]; omega)) dX11_ends_104 rfl ?_
            refine q_bipush (v := 10) dX11_ends_105 rfl ?_
            refine q_aload_n (by first | assumption | omega | decide | (rw [q_R0e]; omega)) dX11_ends_107 rfl ?_
            refine q_getf (k := 2) (v := .int (nI (cg - 1 + 1))) kC_X11 kL_X11_47 rfl (by decide) dX11_ends_108 smo8.c0 rfl ?_
            refine q_invV (mc' := 0) (ms' := 0) (d' := d - 1) (as := [.int (10), .int (nI (cg - 1 + 1))]) dX11_ends_111 kM_X11_copies kL_X11_43 kI_X11_copies kS_X11_copies rfl (kC_X11.1) smo8.c0 rfl rfl (Nat.le_of_ble_eq_true rfl) (by omega) (by decide) (by omega) (by omega) (e_cp (d := d - 1) smo8 10 (cg - 1 + 1) (by omega) (by omega) (by omega) (by omega)) (q_kC (fun h9 hB => ?_)) q_xC
            obtain ⟨t9_0, pp9⟩ := hB
            have smo9 : z_Mr h9 215 0 (x_cp a5_0 10 (cg - 1 + 1)) (cg - 1 + 1) sv rs ac rj ro ad bf ln lz ip ty he er ea fa cm cn := t9_0
            have p9 := p8.trans (pp9.wide (by omega) (by omega))
            have hb_mo_cg := smo9.bcg
            have hb_mo_lz := smo9.blz
            have hb_mo_ty := smo9.bty
            have hb_mo_he := smo9.bhe
            have hb_mo_cn := smo9.bcn
            change q_W _ _ _ _ _ _ _ _ 114 [.ref (215), q_u, q_u, q_u, q_u, q_u] [] _
            refine q_aload_n (by first | assumption | omega | decide | (rw [q_R0e]; omega)) dX11_ends_114 rfl ?_
            refine q_getf (k := 4) (v := .int (rs)) kC_X11 kL_X11_50 rfl (by decide) dX11_ends_115 smo9.c0 rfl ?_
            have hE : x_mo_ends al cg rs xb x1 x2 x3 = (rs, 0, x_cp a5_0 10 (cg - 1 + 1), cg - 1 + 1) := by simp only [x_mo_ends, if_neg b3, if_neg b12, if_neg b21, if_pos b55, x5]
            rw [hE]
            exact q_ireturn dX11_ends_118 rfl rfl (by omega) (by omega) ⟨rfl, smo9, p9⟩
        · exact absurd (by decide) b37
      · refine q_iload dX11_ends_24 rfl ?_
        refine q_goto 30 dX11_ends_26 (by decide) ?_
        refine q_putf (k := 0) kC_X11 kL_X11_40 rfl (by decide) rfl dX11_ends_30 smo.c0 (Nat.le_of_ble_eq_true rfl) ⟨rfl, rfl⟩ rfl ?_
        refine z_genW (B := fun H => z_Mr H 215 x3 al cg sv rs ac rj ro ad bf ln lz ip ty he er ea fa cm cn ∧ q_same h H 215 8) ⟨z_Mr.put0 smo (cg' := cg) (sv' := sv) (lz' := lz) (ty' := ty) (he' := he) (cn' := cn) (hbcg := by first | omega | (split <;> omega)) (hblz := by first | omega | (split <;> omega)) (hbty := by first | omega | (split <;> omega)) (hbhe := by first | omega | (split <;> omega)) (hbcn := by first | omega | (split <;> omega)), p0.trans (q_same.set (by omega) (by omega))⟩ (fun h10 hB => ?_)
        obtain ⟨smo10, p10⟩ := hB
        have hb_mo_cg := smo10.bcg
        have hb_mo_lz := smo10.blz
        have hb_mo_ty := smo10.bty
        have hb_mo_he := smo10.bhe
        have hb_mo_cn := smo10.bcn
        refine q_aload_n (by first | assumption | omega | decide | (rw [q_R0e]; omega)) dX11_ends_33 rfl ?_
        refine q_getf (k := 0) (v := .int (x3)) kC_X11 kL_X11_40 rfl (by decide) dX11_ends_34 smo10.c0 rfl ?_
        refine q_if_eq 49 dX11_ends_37 (by decide) (fun b37 => ?_) (fun b37 => ?_)
        · refine q_aload_n (by first | assumption | omega | decide | (rw [q_R0e]; omega)) dX11_ends_49 rfl ?_
          refine q_getf (k := 2) (v := .int (nI (cg))) kC_X11 kL_X11_47 rfl (by decide) dX11_ends_50 smo10.c0 rfl ?_
          refine q_bipush (v := 8) dX11_ends_53 rfl ?_
          refine q_icmp_ne 94 dX11_ends_55 (by decide) (fun b55 => ?_) (fun b55 => ?_)
          · have b55 : ¬ (cg = 8) := fun q => b55 ((nI_eq (a := cg) (b := 8) (by omega) (by omega)).mpr q)
            refine q_aload_n (by first | assumption | omega | decide | (rw [q_R0e]; omega)) dX11_ends_94 rfl ?_
            refine q_dup dX11_ends_95 rfl ?_
            refine q_getf (k := 2) (v := .int (nI (cg))) kC_X11 kL_X11_47 rfl (by decide) dX11_ends_96 smo10.c0 rfl ?_
            refine q_iconst (v := 1) dX11_ends_99 rfl ?_
            refine q_iaddN (a := cg) (b := 1) dX11_ends_100 ?_
            change q_W _ _ _ _ _ _ _ _ _ _ [.int (nI (cg + 1)), .ref (215)] _
            refine q_putf (k := 2) kC_X11 kL_X11_47 rfl (by decide) rfl dX11_ends_101 smo10.c0 (Nat.le_of_ble_eq_true rfl) ⟨rfl, rfl⟩ rfl ?_
            refine z_genW (B := fun H => z_Mr H 215 x3 al (cg + 1) sv rs ac rj ro ad bf ln lz ip ty he er ea fa cm cn ∧ q_same h H 215 8) ⟨z_Mr.put0 smo10 (cg' := cg + 1) (sv' := sv) (lz' := lz) (ty' := ty) (he' := he) (cn' := cn) (hbcg := by first | omega | (split <;> omega)) (hblz := by first | omega | (split <;> omega)) (hbty := by first | omega | (split <;> omega)) (hbhe := by first | omega | (split <;> omega)) (hbcn := by first | omega | (split <;> omega)), p10.trans (q_same.set (by omega) (by omega))⟩ (fun h11 hB => ?_)
            obtain ⟨smo11, p11⟩ := hB
            have hb_mo_cg := smo11.bcg
            have hb_mo_lz := smo11.blz
            have hb_mo_ty := smo11.bty
            have hb_mo_he := smo11.bhe
            have hb_mo_cn := smo11.bcn
            refine q_aload_n (by first | assumption | omega | decide | (rw [q_R0e]; omega)) dX11_ends_104 rfl ?_
            refine q_bipush (v := 10) dX11_ends_105 rfl ?_
            refine q_aload_n (by first | assumption | omega | decide | (rw [q_R0e]; omega)) dX11_ends_107 rfl ?_
            refine q_getf (k := 2) (v := .int (nI (cg + 1))) kC_X11 kL_X11_47 rfl (by decide) dX11_ends_108 smo11.c0 rfl ?_
            refine q_invV (mc' := 0) (ms' := 0) (d' := d - 1) (as := [.int (10), .int (nI (cg + 1))]) dX11_ends_111 kM_X11_copies kL_X11_43 kI_X11_copies kS_X11_copies rfl (kC_X11.1) smo11.c0 rfl rfl (Nat.le_of_ble_eq_true rfl) (by omega) (by decide) (by omega) (by omega) (e_cp (d := d - 1) smo11 10 (cg + 1) (by omega) (by omega) (by omega) (by omega)) (q_kC (fun h12 hB => ?_)) q_xC
            obtain ⟨t12_0, pp12⟩ := hB
            have smo12 : z_Mr h12 215 x3 (x_cp al 10 (cg + 1)) (cg + 1) sv rs ac rj ro ad bf ln lz ip ty he er ea fa cm cn := t12_0
            have p12 := p11.trans (pp12.wide (by omega) (by omega))
            have hb_mo_cg := smo12.bcg
            have hb_mo_lz := smo12.blz
            have hb_mo_ty := smo12.bty
            have hb_mo_he := smo12.bhe
            have hb_mo_cn := smo12.bcn
            change q_W _ _ _ _ _ _ _ _ 114 [.ref (215), .int (xb), .int (x1), .int (x2), .int (x3), q_u] [] _
            refine q_aload_n (by first | assumption | omega | decide | (rw [q_R0e]; omega)) dX11_ends_114 rfl ?_
            refine q_getf (k := 4) (v := .int (rs)) kC_X11 kL_X11_50 rfl (by decide) dX11_ends_115 smo12.c0 rfl ?_
            have hE : x_mo_ends al cg rs xb x1 x2 x3 = (rs, x3, x_cp al 10 (cg + 1), cg + 1) := by simp only [x_mo_ends, if_neg b3, if_neg b12, if_pos b21, if_pos b37, if_neg b55]
            rw [hE]
            exact q_ireturn dX11_ends_118 rfl rfl (by omega) (by omega) ⟨rfl, smo12, p12⟩
          · have b55 := (nI_eq (a := cg) (b := 8) (by omega) (by omega)).mp b55
            refine q_iconst (v := 1) dX11_ends_58 rfl ?_
            refine q_istore dX11_ends_59 (by decide) rfl ?_
            change q_W _ _ _ _ _ _ _ _ _ [.ref (215), .int (xb), .int (x1), .int (x2), .int (x3), .int (1)] [] _
            refine q_forget 1 ?_
            refine q_forget 2 ?_
            refine q_forget 3 ?_
            refine q_forget 4 ?_
            change q_W _ _ _ _ _ _ _ _ _ [.ref (215), q_u, q_u, q_u, q_u, .int (1)] [] _
            refine l_mo_ends_61_2 ho_mo_cg ho_mo_lz ho_mo_ty ho_mo_he ho_mo_cn b55 (by omega) (by omega) (by omega) 7 1 al h10 smo10 p10 (by omega) (fun a14_0 x14 h15 smo15 p15 => ?_)
            have hb_mo_cg := smo15.bcg
            have hb_mo_lz := smo15.blz
            have hb_mo_ty := smo15.bty
            have hb_mo_he := smo15.bhe
            have hb_mo_cn := smo15.bcn
            change q_W _ _ _ _ _ _ _ _ 84 [.ref (215), q_u, q_u, q_u, q_u, q_u] [] _
            refine q_aload_n (by first | assumption | omega | decide | (rw [q_R0e]; omega)) dX11_ends_84 rfl ?_
            refine q_dup dX11_ends_85 rfl ?_
            refine q_getf (k := 2) (v := .int (nI (cg))) kC_X11 kL_X11_47 rfl (by decide) dX11_ends_86 smo15.c0 rfl ?_
            refine q_iconst (v := 1) dX11_ends_89 rfl ?_
            refine q_isubN (a := cg) (b := 1) (by omega) dX11_ends_90 ?_
            refine q_putf (k := 2) kC_X11 kL_X11_47 rfl (by decide) rfl dX11_ends_91 smo15.c0 (Nat.le_of_ble_eq_true rfl) ⟨rfl, rfl⟩ rfl ?_
            refine z_genW (B := fun H => z_Mr H 215 x3 a14_0 (cg - 1) sv rs ac rj ro ad bf ln lz ip ty he er ea fa cm cn ∧ q_same h H 215 8) ⟨z_Mr.put0 smo15 (cg' := cg - 1) (sv' := sv) (lz' := lz) (ty' := ty) (he' := he) (cn' := cn) (hbcg := by first | omega | (split <;> omega)) (hblz := by first | omega | (split <;> omega)) (hbty := by first | omega | (split <;> omega)) (hbhe := by first | omega | (split <;> omega)) (hbcn := by first | omega | (split <;> omega)), p15.trans (q_same.set (by omega) (by omega))⟩ (fun h16 hB => ?_)
            obtain ⟨smo16, p16⟩ := hB
            have hb_mo_cg := smo16.bcg
            have hb_mo_lz := smo16.blz
            have hb_mo_ty := smo16.bty
            have hb_mo_he := smo16.bhe
            have hb_mo_cn := smo16.bcn
            refine q_aload_n (by first | assumption | omega | decide | (rw [q_R0e]; omega)) dX11_ends_94 rfl ?_
            refine q_dup dX11_ends_95 rfl ?_
            refine q_getf (k := 2) (v := .int (nI (cg - 1))) kC_X11 kL_X11_47 rfl (by decide) dX11_ends_96 smo16.c0 rfl ?_
            refine q_iconst (v := 1) dX11_ends_99 rfl ?_
            refine q_iaddN (a := cg - 1) (b := 1) dX11_ends_100 ?_
            change q_W _ _ _ _ _ _ _ _ _ _ [.int (nI (cg - 1 + 1)), .ref (215)] _
            refine q_putf (k := 2) kC_X11 kL_X11_47 rfl (by decide) rfl dX11_ends_101 smo16.c0 (Nat.le_of_ble_eq_true rfl) ⟨rfl, rfl⟩ rfl ?_
            refine z_genW (B := fun H => z_Mr H 215 x3 a14_0 (cg - 1 + 1) sv rs ac rj ro ad bf ln lz ip ty he er ea fa cm cn ∧ q_same h H 215 8) ⟨z_Mr.put0 smo16 (cg' := cg - 1 + 1) (sv' := sv) (lz' := lz) (ty' := ty) (he' := he) (cn' := cn) (hbcg := by first | omega | (split <;> omega)) (hblz := by first | omega | (split <;> omega)) (hbty := by first | omega | (split <;> omega)) (hbhe := by first | omega | (split <;> omega)) (hbcn := by first | omega | (split <;> omega)), p16.trans (q_same.set (by omega) (by omega))⟩ (fun h17 hB => ?_)
            obtain ⟨smo17, p17⟩ := hB
            have hb_mo_cg := smo17.bcg
            have hb_mo_lz := smo17.blz
            have hb_mo_ty := smo17.bty
            have hb_mo_he := smo17.bhe
            have hb_mo_cn := smo17.bcn
            refine q_aload_n (by first | assumption | omega | decide | (rw [q_R0e]; omega)) dX11_ends_104 rfl ?_
            refine q_bipush (v := 10) dX11_ends_105 rfl ?_
            refine q_aload_n (by first | assumption | omega | decide | (rw [q_R0e]; omega)) dX11_ends_107 rfl ?_
            refine q_getf (k := 2) (v := .int (nI (cg - 1 + 1))) kC_X11 kL_X11_47 rfl (by decide) dX11_ends_108 smo17.c0 rfl ?_
            refine q_invV (mc' := 0) (ms' := 0) (d' := d - 1) (as := [.int (10), .int (nI (cg - 1 + 1))]) dX11_ends_111 kM_X11_copies kL_X11_43 kI_X11_copies kS_X11_copies rfl (kC_X11.1) smo17.c0 rfl rfl (Nat.le_of_ble_eq_true rfl) (by omega) (by decide) (by omega) (by omega) (e_cp (d := d - 1) smo17 10 (cg - 1 + 1) (by omega) (by omega) (by omega) (by omega)) (q_kC (fun h18 hB => ?_)) q_xC
            obtain ⟨t18_0, pp18⟩ := hB
            have smo18 : z_Mr h18 215 x3 (x_cp a14_0 10 (cg - 1 + 1)) (cg - 1 + 1) sv rs ac rj ro ad bf ln lz ip ty he er ea fa cm cn := t18_0
            have p18 := p17.trans (pp18.wide (by omega) (by omega))
            have hb_mo_cg := smo18.bcg
            have hb_mo_lz := smo18.blz
            have hb_mo_ty := smo18.bty
            have hb_mo_he := smo18.bhe
            have hb_mo_cn := smo18.bcn
            change q_W _ _ _ _ _ _ _ _ 114 [.ref (215), q_u, q_u, q_u, q_u, q_u] [] _
            refine q_aload_n (by first | assumption | omega | decide | (rw [q_R0e]; omega)) dX11_ends_114 rfl ?_
            refine q_getf (k := 4) (v := .int (rs)) kC_X11 kL_X11_50 rfl (by decide) dX11_ends_115 smo18.c0 rfl ?_
            have hE : x_mo_ends al cg rs xb x1 x2 x3 = (rs, x3, x_cp a14_0 10 (cg - 1 + 1), cg - 1 + 1) := by simp only [x_mo_ends, if_neg b3, if_neg b12, if_pos b21, if_pos b37, if_pos b55, x14]
            rw [hE]
            exact q_ireturn dX11_ends_118 rfl rfl (by omega) (by omega) ⟨rfl, smo18, p18⟩
        · refine q_aload_n (by first | assumption | omega | decide | (rw [q_R0e]; omega)) dX11_ends_40 rfl ?_
          refine q_bipush (v := 10) dX11_ends_41 rfl ?_
          refine q_iconst (v := 0) dX11_ends_43 rfl ?_
          refine q_invV (mc' := 0) (ms' := 0) (d' := d - 1) (as := [.int (10), .int (0)]) dX11_ends_44 kM_X11_copies kL_X11_43 kI_X11_copies kS_X11_copies rfl (kC_X11.1) smo10.c0 rfl rfl (Nat.le_of_ble_eq_true rfl) (by omega) (by decide) (by omega) (by omega) (e_cp (d := d - 1) smo10 10 0 (by omega) (by omega) (by omega) (by omega)) (q_kC (fun h19 hB => ?_)) q_xC
          obtain ⟨t19_0, pp19⟩ := hB
          have smo19 : z_Mr h19 215 x3 (x_cp al 10 0) cg sv rs ac rj ro ad bf ln lz ip ty he er ea fa cm cn := t19_0
          have p19 := p10.trans (pp19.wide (by omega) (by omega))
          have hb_mo_cg := smo19.bcg
          have hb_mo_lz := smo19.blz
          have hb_mo_ty := smo19.bty
          have hb_mo_he := smo19.bhe
          have hb_mo_cn := smo19.bcn
          change q_W _ _ _ _ _ _ _ _ 47 [.ref (215), .int (xb), .int (x1), .int (x2), .int (x3), q_u] [] _
          refine q_iconst (v := 0) dX11_ends_47 rfl ?_
          have hE : x_mo_ends al cg rs xb x1 x2 x3 = (0, x3, x_cp al 10 0, cg) := by simp only [x_mo_ends, if_neg b3, if_neg b12, if_pos b21, if_neg b37]
          rw [hE]
          exact q_ireturn dX11_ends_48 rfl rfl (by omega) (by omega) ⟨rfl, smo19, p19⟩
    · refine q_iload_n dX11_ends_15 rfl ?_
      refine q_goto 30 dX11_ends_16 (by decide) ?_
      refine q_putf (k := 0) kC_X11 kL_X11_40 rfl (by decide) rfl dX11_ends_30 smo.c0 (Nat.le_of_ble_eq_true rfl) ⟨rfl, rfl⟩ rfl ?_
      refine z_genW (B := fun H => z_Mr H 215 x2 al cg sv rs ac rj ro ad bf ln lz ip ty he er ea fa cm cn ∧ q_same h H 215 8) ⟨z_Mr.put0 smo (cg' := cg) (sv' := sv) (lz' := lz) (ty' := ty) (he' := he) (cn' := cn) (hbcg := by first | omega | (split <;> omega)) (hblz := by first | omega | (split <;> omega)) (hbty := by first | omega | (split <;> omega)) (hbhe := by first | omega | (split <;> omega)) (hbcn := by first | omega | (split <;> omega)), p0.trans (q_same.set (by omega) (by omega))⟩ (fun h20 hB => ?_)
      obtain ⟨smo20, p20⟩ := hB
      have hb_mo_cg := smo20.bcg
      have hb_mo_lz := smo20.blz
      have hb_mo_ty := smo20.bty
      have hb_mo_he := smo20.bhe
      have hb_mo_cn := smo20.bcn
      refine q_aload_n (by first | assumption | omega | decide | (rw [q_R0e]; omega)) dX11_ends_33 rfl ?_
      refine q_getf (k := 0) (v := .int (x2)) kC_X11 kL_X11_40 rfl (by decide) dX11_ends_34 smo20.c0 rfl ?_
      refine q_if_eq 49 dX11_ends_37 (by decide) (fun b37 => ?_) (fun b37 => ?_)
      · refine q_aload_n (by first | assumption | omega | decide | (rw [q_R0e]; omega)) dX11_ends_49 rfl ?_
        refine q_getf (k := 2) (v := .int (nI (cg))) kC_X11 kL_X11_47 rfl (by decide) dX11_ends_50 smo20.c0 rfl ?_
        refine q_bipush (v := 8) dX11_ends_53 rfl ?_
        refine q_icmp_ne 94 dX11_ends_55 (by decide) (fun b55 => ?_) (fun b55 => ?_)
        · have b55 : ¬ (cg = 8) := fun q => b55 ((nI_eq (a := cg) (b := 8) (by omega) (by omega)).mpr q)
          refine q_aload_n (by first | assumption | omega | decide | (rw [q_R0e]; omega)) dX11_ends_94 rfl ?_
          refine q_dup dX11_ends_95 rfl ?_
          refine q_getf (k := 2) (v := .int (nI (cg))) kC_X11 kL_X11_47 rfl (by decide) dX11_ends_96 smo20.c0 rfl ?_
          refine q_iconst (v := 1) dX11_ends_99 rfl ?_
          refine q_iaddN (a := cg) (b := 1) dX11_ends_100 ?_
          change q_W _ _ _ _ _ _ _ _ _ _ [.int (nI (cg + 1)), .ref (215)] _
          refine q_putf (k := 2) kC_X11 kL_X11_47 rfl (by decide) rfl dX11_ends_101 smo20.c0 (Nat.le_of_ble_eq_true rfl) ⟨rfl, rfl⟩ rfl ?_
          refine z_genW (B := fun H => z_Mr H 215 x2 al (cg + 1) sv rs ac rj ro ad bf ln lz ip ty he er ea fa cm cn ∧ q_same h H 215 8) ⟨z_Mr.put0 smo20 (cg' := cg + 1) (sv' := sv) (lz' := lz) (ty' := ty) (he' := he) (cn' := cn) (hbcg := by first | omega | (split <;> omega)) (hblz := by first | omega | (split <;> omega)) (hbty := by first | omega | (split <;> omega)) (hbhe := by first | omega | (split <;> omega)) (hbcn := by first | omega | (split <;> omega)), p20.trans (q_same.set (by omega) (by omega))⟩ (fun h21 hB => ?_)
          obtain ⟨smo21, p21⟩ := hB
          have hb_mo_cg := smo21.bcg
          have hb_mo_lz := smo21.blz
          have hb_mo_ty := smo21.bty
          have hb_mo_he := smo21.bhe
          have hb_mo_cn := smo21.bcn
          refine q_aload_n (by first | assumption | omega | decide | (rw [q_R0e]; omega)) dX11_ends_104 rfl ?_
          refine q_bipush (v := 10) dX11_ends_105 rfl ?_
          refine q_aload_n (by first | assumption | omega | decide | (rw [q_R0e]; omega)) dX11_ends_107 rfl ?_
          refine q_getf (k := 2) (v := .int (nI (cg + 1))) kC_X11 kL_X11_47 rfl (by decide) dX11_ends_108 smo21.c0 rfl ?_
          refine q_invV (mc' := 0) (ms' := 0) (d' := d - 1) (as := [.int (10), .int (nI (cg + 1))]) dX11_ends_111 kM_X11_copies kL_X11_43 kI_X11_copies kS_X11_copies rfl (kC_X11.1) smo21.c0 rfl rfl (Nat.le_of_ble_eq_true rfl) (by omega) (by decide) (by omega) (by omega) (e_cp (d := d - 1) smo21 10 (cg + 1) (by omega) (by omega) (by omega) (by omega)) (q_kC (fun h22 hB => ?_)) q_xC
          obtain ⟨t22_0, pp22⟩ := hB
          have smo22 : z_Mr h22 215 x2 (x_cp al 10 (cg + 1)) (cg + 1) sv rs ac rj ro ad bf ln lz ip ty he er ea fa cm cn := t22_0
          have p22 := p21.trans (pp22.wide (by omega) (by omega))
          have hb_mo_cg := smo22.bcg
          have hb_mo_lz := smo22.blz
          have hb_mo_ty := smo22.bty
          have hb_mo_he := smo22.bhe
          have hb_mo_cn := smo22.bcn
          change q_W _ _ _ _ _ _ _ _ 114 [.ref (215), .int (xb), .int (x1), .int (x2), .int (x3), q_u] [] _
          refine q_aload_n (by first | assumption | omega | decide | (rw [q_R0e]; omega)) dX11_ends_114 rfl ?_
          refine q_getf (k := 4) (v := .int (rs)) kC_X11 kL_X11_50 rfl (by decide) dX11_ends_115 smo22.c0 rfl ?_
          have hE : x_mo_ends al cg rs xb x1 x2 x3 = (rs, x2, x_cp al 10 (cg + 1), cg + 1) := by simp only [x_mo_ends, if_neg b3, if_pos b12, if_pos b37, if_neg b55]
          rw [hE]
          exact q_ireturn dX11_ends_118 rfl rfl (by omega) (by omega) ⟨rfl, smo22, p22⟩
        · have b55 := (nI_eq (a := cg) (b := 8) (by omega) (by omega)).mp b55
          refine q_iconst (v := 1) dX11_ends_58 rfl ?_
          refine q_istore dX11_ends_59 (by decide) rfl ?_
          change q_W _ _ _ _ _ _ _ _ _ [.ref (215), .int (xb), .int (x1), .int (x2), .int (x3), .int (1)] [] _
          refine q_forget 1 ?_
          refine q_forget 2 ?_
          refine q_forget 3 ?_
          refine q_forget 4 ?_
          change q_W _ _ _ _ _ _ _ _ _ [.ref (215), q_u, q_u, q_u, q_u, .int (1)] [] _
          refine l_mo_ends_61_3 ho_mo_cg ho_mo_lz ho_mo_ty ho_mo_he ho_mo_cn b55 (by omega) (by omega) (by omega) 7 1 al h20 smo20 p20 (by omega) (fun a24_0 x24 h25 smo25 p25 => ?_)
          have hb_mo_cg := smo25.bcg
          have hb_mo_lz := smo25.blz
          have hb_mo_ty := smo25.bty
          have hb_mo_he := smo25.bhe
          have hb_mo_cn := smo25.bcn
          change q_W _ _ _ _ _ _ _ _ 84 [.ref (215), q_u, q_u, q_u, q_u, q_u] [] _
          refine q_aload_n (by first | assumption | omega | decide | (rw [q_R0e]; omega)) dX11_ends_84 rfl ?_
          refine q_dup dX11_ends_85 rfl ?_
          refine q_getf (k := 2) (v := .int (nI (cg))) kC_X11 kL_X11_47 rfl (by decide) dX11_ends_86 smo25.c0 rfl ?_
          refine q_iconst (v := 1) dX11_ends_89 rfl ?_
          refine q_isubN (a := cg) (b := 1) (by omega) dX11_ends_90 ?_
          refine q_putf (k := 2) kC_X11 kL_X11_47 rfl (by decide) rfl dX11_ends_91 smo25.c0 (Nat.le_of_ble_eq_true rfl) ⟨rfl, rfl⟩ rfl ?_
          refine z_genW (B := fun H => z_Mr H 215 x2 a24_0 (cg - 1) sv rs ac rj ro ad bf ln lz ip ty he er ea fa cm cn ∧ q_same h H 215 8) ⟨z_Mr.put0 smo25 (cg' := cg - 1) (sv' := sv) (lz' := lz) (ty' := ty) (he' := he) (cn' := cn) (hbcg := by first | omega | (split <;> omega)) (hblz := by first | omega | (split <;> omega)) (hbty := by first | omega | (split <;> omega)) (hbhe := by first | omega | (split <;> omega)) (hbcn := by first | omega | (split <;> omega)), p25.trans (q_same.set (by omega) (by omega))⟩ (fun h26 hB => ?_)
          obtain ⟨smo26, p26⟩ := hB
          have hb_mo_cg := smo26.bcg
          have hb_mo_lz := smo26.blz
          have hb_mo_ty := smo26.bty
          have hb_mo_he := smo26.bhe
          have hb_mo_cn := smo26.bcn
          refine q_aload_n (by first | assumption | omega | decide | (rw [q_R0e]; omega)) dX11_ends_94 rfl ?_
          refine q_dup dX11_ends_95 rfl ?_
          refine q_getf (k := 2) (v := .int (nI (cg - 1))) kC_X11 kL_X11_47 rfl (by decide) dX11_ends_96 smo26.c0 rfl ?_
          refine q_iconst (v := 1) dX11_ends_99 rfl ?_
          refine q_iaddN (a := cg - 1) (b := 1) dX11_ends_100 ?_
          change q_W _ _ _ _ _ _ _ _ _ _ [.int (nI (cg - 1 + 1)), .ref (215)] _
          refine q_putf (k := 2) kC_X11 kL_X11_47 rfl (by decide) rfl dX11_ends_101 smo26.c0 (Nat.le_of_ble_eq_true rfl) ⟨rfl, rfl⟩ rfl ?_
          refine z_genW (B := fun H => z_Mr H 215 x2 a24_0 (cg - 1 + 1) sv rs ac rj ro ad bf ln lz ip ty he er ea fa cm cn ∧ q_same h H 215 8) ⟨z_Mr.put0 smo26 (cg' := cg - 1 + 1) (sv' := sv) (lz' := lz) (ty' := ty) (he' := he) (cn' := cn) (hbcg := by first | omega | (split <;> omega)) (hblz := by first | omega | (split <;> omega)) (hbty := by first | omega | (split <;> omega)) (hbhe := by first | omega | (split <;> omega)) (hbcn := by first | omega | (split <;> omega)), p26.trans (q_same.set (by omega) (by omega))⟩ (fun h27 hB => ?_)
          obtain ⟨smo27, p27⟩ := hB
          have hb_mo_cg := smo27.bcg
          have hb_mo_lz := smo27.blz
          have hb_mo_ty := smo27.bty
          have hb_mo_he := smo27.bhe
          have hb_mo_cn := smo27.bcn
          refine q_aload_n (by first | assumption | omega | decide | (rw [q_R0e]; omega)) dX11_ends_104 rfl ?_
          refine q_bipush (v := 10) dX11_ends_105 rfl ?_
          refine q_aload_n (by first | assumption | omega | decide | (rw [q_R0e]; omega)) dX11_ends_107 rfl ?_
          refine q_getf (k := 2) (v := .int (nI (cg - 1 + 1))) kC_X11 kL_X11_47 rfl (by decide) dX11_ends_108 smo27.c0 rfl ?_
          refine q_invV (mc' := 0) (ms' := 0) (d' := d - 1) (as := [.int (10), .int (nI (cg - 1 + 1))]) dX11_ends_111 kM_X11_copies kL_X11_43 kI_X11_copies kS_X11_copies rfl (kC_X11.1) smo27.c0 rfl rfl (Nat.le_of_ble_eq_true rfl) (by omega) (by decide) (by omega) (by omega) (e_cp (d := d - 1) smo27 10 (cg - 1 + 1) (by omega) (by omega) (by omega) (by omega)) (q_kC (fun h28 hB => ?_)) q_xC
          obtain ⟨t28_0, pp28⟩ := hB
          have smo28 : z_Mr h28 215 x2 (x_cp a24_0 10 (cg - 1 + 1)) (cg - 1 + 1) sv rs ac rj ro ad bf ln lz ip ty he er ea fa cm cn := t28_0
          have p28 := p27.trans (pp28.wide (by omega) (by omega))
          have hb_mo_cg := smo28.bcg
          have hb_mo_lz := smo28.blz
          have hb_mo_ty := smo28.bty
          have hb_mo_he := smo28.bhe
          have hb_mo_cn := smo28.bcn
          change q_W _ _ _ _ _ _ _ _ 114 [.ref (215), q_u, q_u, q_u, q_u, q_u] [] _
          refine q_aload_n (by first | assumption | omega | decide | (rw [q_R0e]; omega)) dX11_ends_114 rfl ?_
          refine q_getf (k := 4) (v := .int (rs)) kC_X11 kL_X11_50 rfl (by decide) dX11_ends_115 smo28.c0 rfl ?_
          have hE : x_mo_ends al cg rs xb x1 x2 x3 = (rs, x2, x_cp a24_0 10 (cg - 1 + 1), cg - 1 + 1) := by simp only [x_mo_ends, if_neg b3, if_pos b12, if_pos b37, if_pos b55, x24]
          rw [hE]
          exact q_ireturn dX11_ends_118 rfl rfl (by omega) (by omega) ⟨rfl, smo28, p28⟩
      · refine q_aload_n (by first | assumption | omega | decide | (rw [q_R0e]; omega)) dX11_ends_40 rfl ?_
        refine q_bipush (v := 10) dX11_ends_41 rfl ?_
        refine q_iconst (v := 0) dX11_ends_43 rfl ?_
        refine q_invV (mc' := 0) (ms' := 0) (d' := d - 1) (as := [.int (10), .int (0)]) dX11_ends_44 kM_X11_copies kL_X11_43 kI_X11_copies kS_X11_copies rfl (kC_X11.1) smo20.c0 rfl rfl (Nat.le_of_ble_eq_true rfl) (by omega) (by decide) (by omega) (by omega) (e_cp (d := d - 1) smo20 10 0 (by omega) (by omega) (by omega) (by omega)) (q_kC (fun h29 hB => ?_)) q_xC
        obtain ⟨t29_0, pp29⟩ := hB
        have smo29 : z_Mr h29 215 x2 (x_cp al 10 0) cg sv rs ac rj ro ad bf ln lz ip ty he er ea fa cm cn := t29_0
        have p29 := p20.trans (pp29.wide (by omega) (by omega))
        have hb_mo_cg := smo29.bcg
        have hb_mo_lz := smo29.blz
        have hb_mo_ty := smo29.bty
        have hb_mo_he := smo29.bhe
        have hb_mo_cn := smo29.bcn
        change q_W _ _ _ _ _ _ _ _ 47 [.ref (215), .int (xb), .int (x1), .int (x2), .int (x3), q_u] [] _
        refine q_iconst (v := 0) dX11_ends_47 rfl ?_
        have hE : x_mo_ends al cg rs xb x1 x2 x3 = (0, x2, x_cp al 10 0, cg) := by simp only [x_mo_ends, if_neg b3, if_pos b12, if_neg b37]
        rw [hE]
        exact q_ireturn dX11_ends_48 rfl rfl (by omega) (by omega) ⟨rfl, smo29, p29⟩
  · refine q_iload_n dX11_ends_6 rfl ?_
    refine q_goto 30 dX11_ends_7 (by decide) ?_
    refine q_putf (k := 0) kC_X11 kL_X11_40 rfl (by decide) rfl dX11_ends_30 smo.c0 (Nat.le_of_ble_eq_true rfl) ⟨rfl, rfl⟩ rfl ?_
    refine z_genW (B := fun H => z_Mr H 215 x1 al cg sv rs ac rj ro ad bf ln lz ip ty he er ea fa cm cn ∧ q_same h H 215 8) ⟨z_Mr.put0 smo (cg' := cg) (sv' := sv) (lz' := lz) (ty' := ty) (he' := he) (cn' := cn) (hbcg := by first | omega | (split <;> omega)) (hblz := by first | omega | (split <;> omega)) (hbty := by first | omega | (split <;> omega)) (hbhe := by first | omega | (split <;> omega)) (hbcn := by first | omega | (split <;> omega)), p0.trans (q_same.set (by omega) (by omega))⟩ (fun h30 hB => ?_)
    obtain ⟨smo30, p30⟩ := hB
    have hb_mo_cg := smo30.bcg
    have hb_mo_lz := smo30.blz
    have hb_mo_ty := smo30.bty
    have hb_mo_he := smo30.bhe
    have hb_mo_cn := smo30.bcn
    refine q_aload_n (by first | assumption | omega | decide | (rw [q_R0e]; omega)) dX11_ends_33 rfl ?_
    refine q_getf (k := 0) (v := .int (x1)) kC_X11 kL_X11_40 rfl (by decide) dX11_ends_34 smo30.c0 rfl ?_
    refine q_if_eq 49 dX11_ends_37 (by decide) (fun b37 => ?_) (fun b37 => ?_)
    · refine q_aload_n (by first | assumption | omega | decide | (rw [q_R0e]; omega)) dX11_ends_49 rfl ?_
      refine q_getf (k := 2) (v := .int (nI (cg))) kC_X11 kL_X11_47 rfl (by decide) dX11_ends_50 smo30.c0 rfl ?_
      refine q_bipush (v := 8) dX11_ends_53 rfl ?_
      refine q_icmp_ne 94 dX11_ends_55 (by decide) (fun b55 => ?_) (fun b55 => ?_)
      · have b55 : ¬ (cg = 8) := fun q => b55 ((nI_eq (a := cg) (b := 8) (by omega) (by omega)).mpr q)
        refine q_aload_n (by first | assumption | omega | decide | (rw [q_R0e]; omega)) dX11_ends_94 rfl ?_
        refine q_dup dX11_ends_95 rfl ?_
        refine q_getf (k := 2) (v := .int (nI (cg))) kC_X11 kL_X11_47 rfl (by decide) dX11_ends_96 smo30.c0 rfl ?_
        refine q_iconst (v := 1) dX11_ends_99 rfl ?_
        refine q_iaddN (a := cg) (b := 1) dX11_ends_100 ?_
        change q_W _ _ _ _ _ _ _ _ _ _ [.int (nI (cg + 1)), .ref (215)] _
        refine q_putf (k := 2) kC_X11 kL_X11_47 rfl (by decide) rfl dX11_ends_101 smo30.c0 (Nat.le_of_ble_eq_true rfl) ⟨rfl, rfl⟩ rfl ?_
        refine z_genW (B := fun H => z_Mr H 215 x1 al (cg + 1) sv rs ac rj ro ad bf ln lz ip ty he er ea fa cm cn ∧ q_same h H 215 8) ⟨z_Mr.put0 smo30 (cg' := cg + 1) (sv' := sv) (lz' := lz) (ty' := ty) (he' := he) (cn' := cn) (hbcg := by first | omega | (split <;> omega)) (hblz := by first | omega | (split <;> omega)) (hbty := by first | omega | (split <;> omega)) (hbhe := by first | omega | (split <;> omega)) (hbcn := by first | omega | (split <;> omega)), p30.trans (q_same.set (by omega) (by omega))⟩ (fun h31 hB => ?_)
        obtain ⟨smo31, p31⟩ := hB
        have hb_mo_cg := smo31.bcg
        have hb_mo_lz := smo31.blz
        have hb_mo_ty := smo31.bty
        have hb_mo_he := smo31.bhe
        have hb_mo_cn := smo31.bcn
        refine q_aload_n (by first | assumption | omega | decide | (rw [q_R0e]; omega)) dX11_ends_104 rfl ?_
        refine q_bipush (v := 10) dX11_ends_105 rfl ?_
        refine q_aload_n (by first | assumption | omega | decide | (rw [q_R0e]; omega)) dX11_ends_107 rfl ?_
        refine q_getf (k := 2) (v := .int (nI (cg + 1))) kC_X11 kL_X11_47 rfl (by decide) dX11_ends_108 smo31.c0 rfl ?_
        refine q_invV (mc' := 0) (ms' := 0) (d' := d - 1) (as := [.int (10), .int (nI (cg + 1))]) dX11_ends_111 kM_X11_copies kL_X11_43 kI_X11_copies kS_X11_copies rfl (kC_X11.1) smo31.c0 rfl rfl (Nat.le_of_ble_eq_true rfl) (by omega) (by decide) (by omega) (by omega) (e_cp (d := d - 1) smo31 10 (cg + 1) (by omega) (by omega) (by omega) (by omega)) (q_kC (fun h32 hB => ?_)) q_xC
        obtain ⟨t32_0, pp32⟩ := hB
        have smo32 : z_Mr h32 215 x1 (x_cp al 10 (cg + 1)) (cg + 1) sv rs ac rj ro ad bf ln lz ip ty he er ea fa cm cn := t32_0
        have p32 := p31.trans (pp32.wide (by omega) (by omega))
        have hb_mo_cg := smo32.bcg
        have hb_mo_lz := smo32.blz
        have hb_mo_ty := smo32.bty
        have hb_mo_he := smo32.bhe
        have hb_mo_cn := smo32.bcn
        change q_W _ _ _ _ _ _ _ _ 114 [.ref (215), .int (xb), .int (x1), .int (x2), .int (x3), q_u] [] _
        refine q_aload_n (by first | assumption | omega | decide | (rw [q_R0e]; omega)) dX11_ends_114 rfl ?_
        refine q_getf (k := 4) (v := .int (rs)) kC_X11 kL_X11_50 rfl (by decide) dX11_ends_115 smo32.c0 rfl ?_
        have hE : x_mo_ends al cg rs xb x1 x2 x3 = (rs, x1, x_cp al 10 (cg + 1), cg + 1) := by simp only [x_mo_ends, if_pos b3, if_pos b37, if_neg b55]
        rw [hE]
        exact q_ireturn dX11_ends_118 rfl rfl (by omega) (by omega) ⟨rfl, smo32, p32⟩
      · have b55 := (nI_eq (a := cg) (b := 8) (by omega) (by omega)).mp b55
        refine q_iconst (v := 1) dX11_ends_58 rfl ?_
        refine q_istore dX11_ends_59 (by decide) rfl ?_
        change q_W _ _ _ _ _ _ _ _ _ [.ref (215), .int (xb), .int (x1), .int (x2), .int (x3), .int (1)] [] _
        refine q_forget 1 ?_
        refine q_forget 2 ?_
        refine q_forget 3 ?_
        refine q_forget 4 ?_
        change q_W _ _ _ _ _ _ _ _ _ [.ref (215), q_u, q_u, q_u, q_u, .int (1)] [] _
        refine l_mo_ends_61_4 ho_mo_cg ho_mo_lz ho_mo_ty ho_mo_he ho_mo_cn b55 (by omega) (by omega) (by omega) 7 1 al h30 smo30 p30 (by omega) (fun a34_0 x34 h35 smo35 p35 => ?_)
        have hb_mo_cg := smo35.bcg
        have hb_mo_lz := smo35.blz
        have hb_mo_ty := smo35.bty
        have hb_mo_he := smo35.bhe
        have hb_mo_cn := smo35.bcn
        change q_W _ _ _ _ _ _ _ _ 84 [.ref (215), q_u, q_u, q_u, q_u, q_u] [] _
        refine q_aload_n (by first | assumption | omega | decide | (rw [q_R0e]; omega)) dX11_ends_84 rfl ?_
        refine q_dup dX11_ends_85 rfl ?_
        refine q_getf (k := 2) (v := .int (nI (cg))) kC_X11 kL_X11_47 rfl (by decide) dX11_ends_86 smo35.c0 rfl ?_
        refine q_iconst (v := 1) dX11_ends_89 rfl ?_
        refine q_isubN (a := cg) (b := 1) (by omega) dX11_ends_90 ?_
        refine q_putf (k := 2) kC_X11 kL_X11_47 rfl (by decide) rfl dX11_ends_91 smo35.c0 (Nat.le_of_ble_eq_true rfl) ⟨rfl, rfl⟩ rfl ?_
        refine z_genW (B := fun H => z_Mr H 215 x1 a34_0 (cg - 1) sv rs ac rj ro ad bf ln lz ip ty he er ea fa cm cn ∧ q_same h H 215 8) ⟨z_Mr.put0 smo35 (cg' := cg - 1) (sv' := sv) (lz' := lz) (ty' := ty) (he' := he) (cn' := cn) (hbcg := by first | omega | (split <;> omega)) (hblz := by first | omega | (split <;> omega)) (hbty := by first | omega | (split <;> omega)) (hbhe := by first | omega | (split <;> omega)) (hbcn := by first | omega | (split <;> omega)), p35.trans (q_same.set (by omega) (by omega))⟩ (fun h36 hB => ?_)
        obtain ⟨smo36, p36⟩ := hB
        have hb_mo_cg := smo36.bcg
        have hb_mo_lz := smo36.blz
        have hb_mo_ty := smo36.bty
        have hb_mo_he := smo36.bhe
        have hb_mo_cn := smo36.bcn
        refine q_aload_n (by first | assumption | omega | decide | (rw [q_R0e]; omega)) dX11_ends_94 rfl ?_
        refine q_dup dX11_ends_95 rfl ?_
        refine q_getf (k := 2) (v := .int (nI (cg - 1))) kC_X11 kL_X11_47 rfl (by decide) dX11_ends_96 smo36.c0 rfl ?_
        refine q_iconst (v := 1) dX11_ends_99 rfl ?_
        refine q_iaddN (a := cg - 1) (b := 1) dX11_ends_100 ?_
        change q_W _ _ _ _ _ _ _ _ _ _ [.int (nI (cg - 1 + 1)), .ref (215)] _
        refine q_putf (k := 2) kC_X11 kL_X11_47 rfl (by decide) rfl dX11_ends_101 smo36.c0 (Nat.le_of_ble_eq_true rfl) ⟨rfl, rfl⟩ rfl ?_
        refine z_genW (B := fun H => z_Mr H 215 x1 a34_0 (cg - 1 + 1) sv rs ac rj ro ad bf ln lz ip ty he er ea fa cm cn ∧ q_same h H 215 8) ⟨z_Mr.put0 smo36 (cg' := cg - 1 + 1) (sv' := sv) (lz' := lz) (ty' := ty) (he' := he) (cn' := cn) (hbcg := by first | omega | (split <;> omega)) (hblz := by first | omega | (split <;> omega)) (hbty := by first | omega | (split <;> omega)) (hbhe := by first | omega | (split <;> omega)) (hbcn := by first | omega | (split <;> omega)), p36.trans (q_same.set (by omega) (by omega))⟩ (fun h37 hB => ?_)
        obtain ⟨smo37, p37⟩ := hB
        have hb_mo_cg := smo37.bcg
        have hb_mo_lz := smo37.blz
        have hb_mo_ty := smo37.bty
        have hb_mo_he := smo37.bhe
        have hb_mo_cn := smo37.bcn
        refine q_aload_n (by first | assumption | omega | decide | (rw [q_R0e]; omega)) dX11_ends_104 rfl ?_
        refine q_bipush (v := 10) dX11_ends_105 rfl ?_
        refine q_aload_n (by first | assumption | omega | decide | (rw [q_R0e]; omega)) dX11_ends_107 rfl ?_
        refine q_getf (k := 2) (v := .int (nI (cg - 1 + 1))) kC_X11 kL_X11_47 rfl (by decide) dX11_ends_108 smo37.c0 rfl ?_
        refine q_invV (mc' := 0) (ms' := 0) (d' := d - 1) (as := [.int (10), .int (nI (cg - 1 + 1))]) dX11_ends_111 kM_X11_copies kL_X11_43 kI_X11_copies kS_X11_copies rfl (kC_X11.1) smo37.c0 rfl rfl (Nat.le_of_ble_eq_true rfl) (by omega) (by decide) (by omega) (by omega) (e_cp (d := d - 1) smo37 10 (cg - 1 + 1) (by omega) (by omega) (by omega) (by omega)) (q_kC (fun h38 hB => ?_)) q_xC
        obtain ⟨t38_0, pp38⟩ := hB
        have smo38 : z_Mr h38 215 x1 (x_cp a34_0 10 (cg - 1 + 1)) (cg - 1 + 1) sv rs ac rj ro ad bf ln lz ip ty he er ea fa cm cn := t38_0
        have p38 := p37.trans (pp38.wide (by omega) (by omega))
        have hb_mo_cg := smo38.bcg
        have hb_mo_lz := smo38.blz
        have hb_mo_ty := smo38.bty
        have hb_mo_he := smo38.bhe
        have hb_mo_cn := smo38.bcn
        change q_W _ _ _ _ _ _ _ _ 114 [.ref (215), q_u, q_u, q_u, q_u, q_u] [] _
        refine q_aload_n (by first | assumption | omega | decide | (rw [q_R0e]; omega)) dX11_ends_114 rfl ?_
        refine q_getf (k := 4) (v := .int (rs)) kC_X11 kL_X11_50 rfl (by decide) dX11_ends_115 smo38.c0 rfl ?_
        have hE : x_mo_ends al cg rs xb x1 x2 x3 = (rs, x1, x_cp a34_0 10 (cg - 1 + 1), cg - 1 + 1) := by simp only [x_mo_ends, if_pos b3, if_pos b37, if_pos b55, x34]
        rw [hE]
        exact q_ireturn dX11_ends_118 rfl rfl (by omega) (by omega) ⟨rfl, smo38, p38⟩
    · refine q_aload_n (by first | assumption | omega | decide | (rw [q_R0e]; omega)) dX11_ends_40 rfl ?_
      refine q_bipush (v := 10) dX11_ends_41 rfl ?_
      refine q_iconst (v := 0) dX11_ends_43 rfl ?_
      refine q_invV (mc' := 0) (ms' := 0) (d' := d - 1) (as := [.int (10), .int (0)]) dX11_ends_44 kM_X11_copies kL_X11_43 kI_X11_copies kS_X11_copies rfl (kC_X11.1) smo30.c0 rfl rfl (Nat.le_of_ble_eq_true rfl) (by omega) (by decide) (by omega) (by omega) (e_cp (d := d - 1) smo30 10 0 (by omega) (by omega) (by omega) (by omega)) (q_kC (fun h39 hB => ?_)) q_xC
      obtain ⟨t39_0, pp39⟩ := hB
      have smo39 : z_Mr h39 215 x1 (x_cp al 10 0) cg sv rs ac rj ro ad bf ln lz ip ty he er ea fa cm cn := t39_0
      have p39 := p30.trans (pp39.wide (by omega) (by omega))
      have hb_mo_cg := smo39.bcg
      have hb_mo_lz := smo39.blz
      have hb_mo_ty := smo39.bty
      have hb_mo_he := smo39.bhe
      have hb_mo_cn := smo39.bcn
      change q_W _ _ _ _ _ _ _ _ 47 [.ref (215), .int (xb), .int (x1), .int (x2), .int (x3), q_u] [] _
      refine q_iconst (v := 0) dX11_ends_47 rfl ?_
      have hE : x_mo_ends al cg rs xb x1 x2 x3 = (0, x1, x_cp al 10 0, cg) := by simp only [x_mo_ends, if_pos b3, if_neg b37]
      rw [hE]
      exact q_ireturn dX11_ends_48 rfl rfl (by omega) (by omega) ⟨rfl, smo39, p39⟩
theorem x_pl_2_cp {al : Nat → Int32} {f t : Nat} {xid : Int32} (h : 0 < t) : ∀ r k, k + r ≤ 8 → x_pl_2 (x_cp al f t) xid r k = x_pl_2 al xid r k := by
  intro r
  induction r with
  | zero => intro k _; rfl
  | succ r ih =>
    intro k hk
    simp only [x_pl_2]
    rw [x_cp_ne (by omega), ih (k + 1) (by omega)]
theorem x_pl_cp {n : Nat} {al : Nat → Int32} {f t : Nat} {xid : Int32} (h : 0 < t) (hn : n ≤ 8) : x_pl n (x_cp al f t) xid = x_pl n al xid := x_pl_2_cp h n 0 (by omega)
theorem z_in0 {x : Int32} {n : Nat} (hn : n < 2 ^ 30) (h : x_mo_in x 0 (nI n - 1) = true) : ¬ x < 0 ∧ x < nI n := by
  unfold x_mo_in at h
  split at h
  · cases h
  · split at h
    · cases h
    · next h1 h2 =>
      refine ⟨h1, ?_⟩
      have e : (nI n - nI 1).toInt = (n : Int) - 1 := pk_sub_toInt (a := n) (b := 1) hn (by decide)
      have e1 : (nI n - 1).toInt = (n : Int) - 1 := e
      rw [Int32.lt_iff_toInt_lt] at h2 ⊢
      rw [e1] at h2
      rw [nI_toInt (by omega)]
      omega
def x_mo_addArgument (al : Nat → Int32) (cg : Nat) (rs : Int32) (n : Nat) (xa : Int32) : (Int32) × (Int32) × (Nat → Int32) × (Nat) × (Int32) := (match x_mo_adds (x_cp al 0 10) rs n xa with | (v2, y2_al, y2_rs, y2_n) => (match x_mo_ends y2_al cg y2_rs v2 1 2 0 with | (v4, y4_th, y4_al, y4_cg) => (v4, y4_th, y4_al, y4_cg, y2_rs)))
set_option maxRecDepth 100000 in
set_option maxHeartbeats 8000000 in
theorem e_mo_addArgument {g : q_G} {h : q_H} {d : Nat} {th : Int32} {al : Nat → Int32} {cg : Nat} {sv : Bool} {rs : Int32} {ac : Int32} {rj : Int32} {ro : Nat → Int32} {ad : Nat → Int32} {bf : Nat → Int32} {ln : Nat → Int32} {lz : Nat} {ip : Nat → Int32} {ty : Nat} {he : Nat} {er : Int32} {ea : Int32} {fa : Int32} {cm : Nat → Int32} {cn : Nat} (smo : z_Mr h 215 th al cg sv rs ac rj ro ad bf ln lz ip ty he er ea fa cm cn)  (n : Nat) (mn : Nat) (xa : Int32) (e0 : al 0 = nI n) (hn : n ≤ 8) (e3 : al 3 = nI mn) (hm : mn ≤ 12)  (hd : 2 ≤ d) : q_Spec g mX11_addArgument d 0 0 [.ref (215), .int (xa)] h (q_chg (.inl (some (.int (x_mo_addArgument al cg rs n xa).1))) (fun h1 => z_Mr h1 215 ((x_mo_addArgument al cg rs n xa).2.1) ((x_mo_addArgument al cg rs n xa).2.2.1) ((x_mo_addArgument al cg rs n xa).2.2.2.1) sv ((x_mo_addArgument al cg rs n xa).2.2.2.2) ac rj ro ad bf ln lz ip ty he er ea fa cm cn ∧ q_same h h1 215 8)) := by
  have hb_mo_cg := smo.bcg
  have hb_mo_lz := smo.blz
  have hb_mo_ty := smo.bty
  have hb_mo_he := smo.bhe
  have hb_mo_cn := smo.bcn
  have ho_mo_cg := smo.bcg
  have ho_mo_lz := smo.blz
  have ho_mo_ty := smo.bty
  have ho_mo_he := smo.bhe
  have ho_mo_cn := smo.bcn
  have p0 : q_same h h 215 8 := q_same.rfl'
  refine q_enter (by decide +kernel) rfl rfl (Nat.le_of_ble_eq_true rfl) (fun hz => ?_)
  change q_W _ _ _ _ _ _ _ _ _ [.ref (215), .int (xa)] [] _
  refine q_aload_n (by first | assumption | omega | decide | (rw [q_R0e]; omega)) dX11_addArgument_0 rfl ?_
  refine q_invV (mc' := 0) (ms' := 0) (d' := d - 1) (as := []) dX11_addArgument_1 kM_X11_begins kL_X11_113 kI_X11_begins kS_X11_begins rfl (kC_X11.1) smo.c0 rfl rfl (Nat.le_of_ble_eq_true rfl) (by omega) (by decide) (by omega) (by omega) (e_mo_begins (d := d - 1) smo (by omega)) (q_kC (fun h1 hB => ?_)) q_xC
  obtain ⟨t1_0, pp1⟩ := hB
  have smo1 : z_Mr h1 215 th (x_cp al 0 10) cg sv rs ac rj ro ad bf ln lz ip ty he er ea fa cm cn := t1_0
  have p1 := p0.trans (pp1.wide (by omega) (by omega))
  have hb_mo_cg := smo1.bcg
  have hb_mo_lz := smo1.blz
  have hb_mo_ty := smo1.bty
  have hb_mo_he := smo1.bhe
  have hb_mo_cn := smo1.bcn
  change q_W _ _ _ _ _ _ _ _ 4 [.ref (215), .int (xa)] [] _
  refine q_aload_n (by first | assumption | omega | decide | (rw [q_R0e]; omega)) dX11_addArgument_4 rfl ?_
  refine q_aload_n (by first | assumption | omega | decide | (rw [q_R0e]; omega)) dX11_addArgument_5 rfl ?_
  refine q_iload_n dX11_addArgument_6 rfl ?_
  rcases x2 : x_mo_adds (x_cp al 0 10) rs n xa with ⟨v2, y2_al, y2_rs, y2_n⟩
  have e9 := e_mo_adds (g := g) (h := h1) (d := d - 1) (smo1.mo ((x_cp_ne (by omega)).trans e0) hn ((x_cp_ne (by omega)).trans e3) hm) xa (by omega)
  rw [x2] at e9
  refine q_invV (mc' := 0) (ms' := 0) (d' := d - 1) (as := [.int (xa)]) dX11_addArgument_7 kM_X11_adds kL_X11_116 kI_X11_adds kS_X11_adds rfl (kC_X11.1) smo1.c0 rfl rfl (Nat.le_of_ble_eq_true rfl) (by omega) (by decide) (by omega) (by omega) (e9) (q_kC (fun h3 hB => ?_)) q_xC
  obtain ⟨t3_0, pp3⟩ := hB
  have smo3 := t3_0.raw
  have p3 := p1.trans (pp3.wide (by omega) (by omega))
  have hb_mo_cg := smo3.bcg
  have hb_mo_lz := smo3.blz
  have hb_mo_ty := smo3.bty
  have hb_mo_he := smo3.bhe
  have hb_mo_cn := smo3.bcn
  change q_W _ _ _ _ _ _ _ _ 10 [.ref (215), .int (xa)] [.int (v2), .ref (215)] _
  refine q_iconst (v := 1) dX11_addArgument_10 rfl ?_
  refine q_iconst (v := 2) dX11_addArgument_11 rfl ?_
  refine q_iconst (v := 0) dX11_addArgument_12 rfl ?_
  rcases x4 : x_mo_ends y2_al cg y2_rs v2 1 2 0 with ⟨v4, y4_th, y4_al, y4_cg⟩
  have e9 := e_mo_ends (g := g) (h := h3) (d := d - 1) smo3 v2 1 2 0 (by omega)
  rw [x4] at e9
  refine q_invV (mc' := 0) (ms' := 0) (d' := d - 1) (as := [.int (v2), .int (1), .int (2), .int (0)]) dX11_addArgument_13 kM_X11_ends kL_X11_119 kI_X11_ends kS_X11_ends rfl (kC_X11.1) smo3.c0 rfl rfl (Nat.le_of_ble_eq_true rfl) (by omega) (by decide) (by omega) (by omega) (e9) (q_kC (fun h5 hB => ?_)) q_xC
  obtain ⟨t5_0, pp5⟩ := hB
  have smo5 := t5_0
  have p5 := p3.trans (pp5.wide (by omega) (by omega))
  have hb_mo_cg : y4_cg ≤ 8 := smo5.bcg
  have hb_mo_lz := smo5.blz
  have hb_mo_ty := smo5.bty
  have hb_mo_he := smo5.bhe
  have hb_mo_cn := smo5.bcn
  change q_W _ _ _ _ _ _ _ _ 16 [.ref (215), .int (xa)] [.int (v4)] _
  have hE : x_mo_addArgument al cg rs n xa = (v4, y4_th, y4_al, y4_cg, y2_rs) := by simp only [x_mo_addArgument, x2, x4]
  rw [hE]
  exact q_ireturn dX11_addArgument_16 rfl rfl (by omega) (by omega) ⟨rfl, smo5, p5⟩
def x_mo_removeArgument (al : Nat → Int32) (cg : Nat) (rs : Int32) (n : Nat) (mn : Nat) (xa : Int32) : (Int32) × (Int32) × (Nat → Int32) × (Nat) × (Int32) := (match x_mo_removes (x_cp al 0 10) rs n mn xa with | (v2, y2_al, y2_rs, y2_n, y2_mn) => (match x_mo_ends y2_al cg y2_rs v2 0 0 1 with | (v4, y4_th, y4_al, y4_cg) => (v4, y4_th, y4_al, y4_cg, y2_rs)))
set_option maxRecDepth 100000 in
set_option maxHeartbeats 8000000 in
theorem e_mo_removeArgument {g : q_G} {h : q_H} {d : Nat} {th : Int32} {al : Nat → Int32} {cg : Nat} {sv : Bool} {rs : Int32} {ac : Int32} {rj : Int32} {ro : Nat → Int32} {ad : Nat → Int32} {bf : Nat → Int32} {ln : Nat → Int32} {lz : Nat} {ip : Nat → Int32} {ty : Nat} {he : Nat} {er : Int32} {ea : Int32} {fa : Int32} {cm : Nat → Int32} {cn : Nat} (smo : z_Mr h 215 th al cg sv rs ac rj ro ad bf ln lz ip ty he er ea fa cm cn)  (n : Nat) (mn : Nat) (xa : Int32) (e0 : al 0 = nI n) (hn : n ≤ 8) (e3 : al 3 = nI mn) (hm : mn ≤ 12)  (hd : 3 ≤ d) : q_Spec g mX11_removeArgument d 0 0 [.ref (215), .int (xa)] h (q_chg (.inl (some (.int (x_mo_removeArgument al cg rs n mn xa).1))) (fun h1 => z_Mr h1 215 ((x_mo_removeArgument al cg rs n mn xa).2.1) ((x_mo_removeArgument al cg rs n mn xa).2.2.1) ((x_mo_removeArgument al cg rs n mn xa).2.2.2.1) sv ((x_mo_removeArgument al cg rs n mn xa).2.2.2.2) ac rj ro ad bf ln lz ip ty he er ea fa cm cn ∧ q_same h h1 215 8)) := by
  have hb_mo_cg := smo.bcg
  have hb_mo_lz := smo.blz
  have hb_mo_ty := smo.bty
  have hb_mo_he := smo.bhe
  have hb_mo_cn := smo.bcn
  have ho_mo_cg := smo.bcg
  have ho_mo_lz := smo.blz
  have ho_mo_ty := smo.bty
  have ho_mo_he := smo.bhe
  have ho_mo_cn := smo.bcn
  have p0 : q_same h h 215 8 := q_same.rfl'
  refine q_enter (by decide +kernel) rfl rfl (Nat.le_of_ble_eq_true rfl) (fun hz => ?_)
  change q_W _ _ _ _ _ _ _ _ _ [.ref (215), .int (xa)] [] _
  refine q_aload_n (by first | assumption | omega | decide | (rw [q_R0e]; omega)) dX11_removeArgument_0 rfl ?_
  refine q_invV (mc' := 0) (ms' := 0) (d' := d - 1) (as := []) dX11_removeArgument_1 kM_X11_begins kL_X11_113 kI_X11_begins kS_X11_begins rfl (kC_X11.1) smo.c0 rfl rfl (Nat.le_of_ble_eq_true rfl) (by omega) (by decide) (by omega) (by omega) (e_mo_begins (d := d - 1) smo (by omega)) (q_kC (fun h1 hB => ?_)) q_xC
  obtain ⟨t1_0, pp1⟩ := hB
  have smo1 : z_Mr h1 215 th (x_cp al 0 10) cg sv rs ac rj ro ad bf ln lz ip ty he er ea fa cm cn := t1_0
  have p1 := p0.trans (pp1.wide (by omega) (by omega))
  have hb_mo_cg := smo1.bcg
  have hb_mo_lz := smo1.blz
  have hb_mo_ty := smo1.bty
  have hb_mo_he := smo1.bhe
  have hb_mo_cn := smo1.bcn
  change q_W _ _ _ _ _ _ _ _ 4 [.ref (215), .int (xa)] [] _
  refine q_aload_n (by first | assumption | omega | decide | (rw [q_R0e]; omega)) dX11_removeArgument_4 rfl ?_
  refine q_aload_n (by first | assumption | omega | decide | (rw [q_R0e]; omega)) dX11_removeArgument_5 rfl ?_
  refine q_iload_n dX11_removeArgument_6 rfl ?_
  rcases x2 : x_mo_removes (x_cp al 0 10) rs n mn xa with ⟨v2, y2_al, y2_rs, y2_n, y2_mn⟩
  have e9 := e_mo_removes (g := g) (h := h1) (d := d - 1) (smo1.mo ((x_cp_ne (by omega)).trans e0) hn ((x_cp_ne (by omega)).trans e3) hm) xa (by omega)
  rw [x2] at e9
  refine q_invV (mc' := 0) (ms' := 0) (d' := d - 1) (as := [.int (xa)]) dX11_removeArgument_7 kM_X11_removes kL_X11_138 kI_X11_removes kS_X11_removes rfl (kC_X11.1) smo1.c0 rfl rfl (Nat.le_of_ble_eq_true rfl) (by omega) (by decide) (by omega) (by omega) (e9) (q_kC (fun h3 hB => ?_)) q_xC
  obtain ⟨t3_0, pp3⟩ := hB
  have smo3 := t3_0.raw
  have p3 := p1.trans (pp3.wide (by omega) (by omega))
  have hb_mo_cg := smo3.bcg
  have hb_mo_lz := smo3.blz
  have hb_mo_ty := smo3.bty
  have hb_mo_he := smo3.bhe
  have hb_mo_cn := smo3.bcn
  change q_W _ _ _ _ _ _ _ _ 10 [.ref (215), .int (xa)] [.int (v2), .ref (215)] _
  refine q_iconst (v := 0) dX11_removeArgument_10 rfl ?_
  refine q_iconst (v := 0) dX11_removeArgument_11 rfl ?_
  refine q_iconst (v := 1) dX11_removeArgument_12 rfl ?_
  rcases x4 : x_mo_ends y2_al cg y2_rs v2 0 0 1 with ⟨v4, y4_th, y4_al, y4_cg⟩
  have e9 := e_mo_ends (g := g) (h := h3) (d := d - 1) smo3 v2 0 0 1 (by omega)
  rw [x4] at e9
  refine q_invV (mc' := 0) (ms' := 0) (d' := d - 1) (as := [.int (v2), .int (0), .int (0), .int (1)]) dX11_removeArgument_13 kM_X11_ends kL_X11_119 kI_X11_ends kS_X11_ends rfl (kC_X11.1) smo3.c0 rfl rfl (Nat.le_of_ble_eq_true rfl) (by omega) (by decide) (by omega) (by omega) (e9) (q_kC (fun h5 hB => ?_)) q_xC
  obtain ⟨t5_0, pp5⟩ := hB
  have smo5 := t5_0
  have p5 := p3.trans (pp5.wide (by omega) (by omega))
  have hb_mo_cg : y4_cg ≤ 8 := smo5.bcg
  have hb_mo_lz := smo5.blz
  have hb_mo_ty := smo5.bty
  have hb_mo_he := smo5.bhe
  have hb_mo_cn := smo5.bcn
  change q_W _ _ _ _ _ _ _ _ 16 [.ref (215), .int (xa)] [.int (v4)] _
  have hE : x_mo_removeArgument al cg rs n mn xa = (v4, y4_th, y4_al, y4_cg, y2_rs) := by simp only [x_mo_removeArgument, x2, x4]
  rw [hE]
  exact q_ireturn dX11_removeArgument_16 rfl rfl (by omega) (by omega) ⟨rfl, smo5, p5⟩
def x_mo_addAttack (al : Nat → Int32) (cg : Nat) (rs : Int32) (n : Nat) (xa : Int32) (xc : Int32) : (Int32) × (Int32) × (Nat → Int32) × (Nat) × (Int32) := (match x_mo_leads (x_cp al 0 10) rs n xa xc with | (v2, y2_al, y2_rs) => (match x_mo_ends y2_al cg y2_rs v2 2 3 1 with | (v4, y4_th, y4_al, y4_cg) => (v4, y4_th, y4_al, y4_cg, y2_rs)))
set_option maxRecDepth 100000 in
set_option maxHeartbeats 8000000 in
theorem e_mo_addAttack {g : q_G} {h : q_H} {d : Nat} {th : Int32} {al : Nat → Int32} {cg : Nat} {sv : Bool} {rs : Int32} {ac : Int32} {rj : Int32} {ro : Nat → Int32} {ad : Nat → Int32} {bf : Nat → Int32} {ln : Nat → Int32} {lz : Nat} {ip : Nat → Int32} {ty : Nat} {he : Nat} {er : Int32} {ea : Int32} {fa : Int32} {cm : Nat → Int32} {cn : Nat} (smo : z_Mr h 215 th al cg sv rs ac rj ro ad bf ln lz ip ty he er ea fa cm cn)  (n : Nat) (mn : Nat) (xa : Int32) (xc : Int32) (e0 : al 0 = nI n) (hn : n ≤ 8) (e3 : al 3 = nI mn) (hm : mn ≤ 12)  (hd : 4 ≤ d) : q_Spec g mX11_addAttack d 0 0 [.ref (215), .int (xa), .int (xc)] h (q_chg (.inl (some (.int (x_mo_addAttack al cg rs n xa xc).1))) (fun h1 => z_Mr h1 215 ((x_mo_addAttack al cg rs n xa xc).2.1) ((x_mo_addAttack al cg rs n xa xc).2.2.1) ((x_mo_addAttack al cg rs n xa xc).2.2.2.1) sv ((x_mo_addAttack al cg rs n xa xc).2.2.2.2) ac rj ro ad bf ln lz ip ty he er ea fa cm cn ∧ q_same h h1 215 8)) := by
  have hb_mo_cg := smo.bcg
  have hb_mo_lz := smo.blz
  have hb_mo_ty := smo.bty
  have hb_mo_he := smo.bhe
  have hb_mo_cn := smo.bcn
  have ho_mo_cg := smo.bcg
  have ho_mo_lz := smo.blz
  have ho_mo_ty := smo.bty
  have ho_mo_he := smo.bhe
  have ho_mo_cn := smo.bcn
  have p0 : q_same h h 215 8 := q_same.rfl'
  refine q_enter (by decide +kernel) rfl rfl (Nat.le_of_ble_eq_true rfl) (fun hz => ?_)
  change q_W _ _ _ _ _ _ _ _ _ [.ref (215), .int (xa), .int (xc)] [] _
  refine q_aload_n (by first | assumption | omega | decide | (rw [q_R0e]; omega)) dX11_addAttack_0 rfl ?_
  refine q_invV (mc' := 0) (ms' := 0) (d' := d - 1) (as := []) dX11_addAttack_1 kM_X11_begins kL_X11_113 kI_X11_begins kS_X11_begins rfl (kC_X11.1) smo.c0 rfl rfl (Nat.le_of_ble_eq_true rfl) (by omega) (by decide) (by omega) (by omega) (e_mo_begins (d := d - 1) smo (by omega)) (q_kC (fun h1 hB => ?_)) q_xC
  obtain ⟨t1_0, pp1⟩ := hB
  have smo1 : z_Mr h1 215 th (x_cp al 0 10) cg sv rs ac rj ro ad bf ln lz ip ty he er ea fa cm cn := t1_0
  have p1 := p0.trans (pp1.wide (by omega) (by omega))
  have hb_mo_cg := smo1.bcg
  have hb_mo_lz := smo1.blz
  have hb_mo_ty := smo1.bty
  have hb_mo_he := smo1.bhe
  have hb_mo_cn := smo1.bcn
  change q_W _ _ _ _ _ _ _ _ 4 [.ref (215), .int (xa), .int (xc)] [] _
  refine q_aload_n (by first | assumption | omega | decide | (rw [q_R0e]; omega)) dX11_addAttack_4 rfl ?_
  refine q_aload_n (by first | assumption | omega | decide | (rw [q_R0e]; omega)) dX11_addAttack_5 rfl ?_
  refine q_iload_n dX11_addAttack_6 rfl ?_
  refine q_iload_n dX11_addAttack_7 rfl ?_
  rcases x2 : x_mo_leads (x_cp al 0 10) rs n xa xc with ⟨v2, y2_al, y2_rs⟩
  have e9 := e_mo_leads (g := g) (h := h1) (d := d - 1) (smo1.mo ((x_cp_ne (by omega)).trans e0) hn ((x_cp_ne (by omega)).trans e3) hm) xa xc (by omega)
  rw [x2] at e9
  refine q_invV (mc' := 0) (ms' := 0) (d' := d - 1) (as := [.int (xa), .int (xc)]) dX11_addAttack_8 kM_X11_leads kL_X11_144 kI_X11_leads kS_X11_leads rfl (kC_X11.1) smo1.c0 rfl rfl (Nat.le_of_ble_eq_true rfl) (by omega) (by decide) (by omega) (by omega) (e9) (q_kC (fun h3 hB => ?_)) q_xC
  obtain ⟨t3_0, pp3⟩ := hB
  have smo3 := t3_0.raw
  have p3 := p1.trans (pp3.wide (by omega) (by omega))
  have hb_mo_cg := smo3.bcg
  have hb_mo_lz := smo3.blz
  have hb_mo_ty := smo3.bty
  have hb_mo_he := smo3.bhe
  have hb_mo_cn := smo3.bcn
  change q_W _ _ _ _ _ _ _ _ 11 [.ref (215), .int (xa), .int (xc)] [.int (v2), .ref (215)] _
  refine q_iconst (v := 2) dX11_addAttack_11 rfl ?_
  refine q_iconst (v := 3) dX11_addAttack_12 rfl ?_
  refine q_iconst (v := 1) dX11_addAttack_13 rfl ?_
  rcases x4 : x_mo_ends y2_al cg y2_rs v2 2 3 1 with ⟨v4, y4_th, y4_al, y4_cg⟩
  have e9 := e_mo_ends (g := g) (h := h3) (d := d - 1) smo3 v2 2 3 1 (by omega)
  rw [x4] at e9
  refine q_invV (mc' := 0) (ms' := 0) (d' := d - 1) (as := [.int (v2), .int (2), .int (3), .int (1)]) dX11_addAttack_14 kM_X11_ends kL_X11_119 kI_X11_ends kS_X11_ends rfl (kC_X11.1) smo3.c0 rfl rfl (Nat.le_of_ble_eq_true rfl) (by omega) (by decide) (by omega) (by omega) (e9) (q_kC (fun h5 hB => ?_)) q_xC
  obtain ⟨t5_0, pp5⟩ := hB
  have smo5 := t5_0
  have p5 := p3.trans (pp5.wide (by omega) (by omega))
  have hb_mo_cg : y4_cg ≤ 8 := smo5.bcg
  have hb_mo_lz := smo5.blz
  have hb_mo_ty := smo5.bty
  have hb_mo_he := smo5.bhe
  have hb_mo_cn := smo5.bcn
  change q_W _ _ _ _ _ _ _ _ 17 [.ref (215), .int (xa), .int (xc)] [.int (v4)] _
  have hE : x_mo_addAttack al cg rs n xa xc = (v4, y4_th, y4_al, y4_cg, y2_rs) := by simp only [x_mo_addAttack, x2, x4]
  rw [hE]
  exact q_ireturn dX11_addAttack_17 rfl rfl (by omega) (by omega) ⟨rfl, smo5, p5⟩
def x_mo_removeAttack (al : Nat → Int32) (cg : Nat) (rs : Int32) (n : Nat) (xa : Int32) (xc : Int32) : (Int32) × (Int32) × (Nat → Int32) × (Nat) × (Int32) := (match x_mo_yields (x_cp al 0 10) rs n xa xc with | (v2, y2_al, y2_rs) => (match x_mo_ends y2_al cg y2_rs v2 0 0 1 with | (v4, y4_th, y4_al, y4_cg) => (v4, y4_th, y4_al, y4_cg, y2_rs)))
set_option maxRecDepth 100000 in
set_option maxHeartbeats 8000000 in
theorem e_mo_removeAttack {g : q_G} {h : q_H} {d : Nat} {th : Int32} {al : Nat → Int32} {cg : Nat} {sv : Bool} {rs : Int32} {ac : Int32} {rj : Int32} {ro : Nat → Int32} {ad : Nat → Int32} {bf : Nat → Int32} {ln : Nat → Int32} {lz : Nat} {ip : Nat → Int32} {ty : Nat} {he : Nat} {er : Int32} {ea : Int32} {fa : Int32} {cm : Nat → Int32} {cn : Nat} (smo : z_Mr h 215 th al cg sv rs ac rj ro ad bf ln lz ip ty he er ea fa cm cn)  (n : Nat) (mn : Nat) (xa : Int32) (xc : Int32) (e0 : al 0 = nI n) (hn : n ≤ 8) (e3 : al 3 = nI mn) (hm : mn ≤ 12)  (hd : 4 ≤ d) : q_Spec g mX11_removeAttack d 0 0 [.ref (215), .int (xa), .int (xc)] h (q_chg (.inl (some (.int (x_mo_removeAttack al cg rs n xa xc).1))) (fun h1 => z_Mr h1 215 ((x_mo_removeAttack al cg rs n xa xc).2.1) ((x_mo_removeAttack al cg rs n xa xc).2.2.1) ((x_mo_removeAttack al cg rs n xa xc).2.2.2.1) sv ((x_mo_removeAttack al cg rs n xa xc).2.2.2.2) ac rj ro ad bf ln lz ip ty he er ea fa cm cn ∧ q_same h h1 215 8)) := by
  have hb_mo_cg := smo.bcg
  have hb_mo_lz := smo.blz
  have hb_mo_ty := smo.bty
  have hb_mo_he := smo.bhe
  have hb_mo_cn := smo.bcn
  have ho_mo_cg := smo.bcg
  have ho_mo_lz := smo.blz
  have ho_mo_ty := smo.bty
  have ho_mo_he := smo.bhe
  have ho_mo_cn := smo.bcn
  have p0 : q_same h h 215 8 := q_same.rfl'
  refine q_enter (by decide +kernel) rfl rfl (Nat.le_of_ble_eq_true rfl) (fun hz => ?_)
  change q_W _ _ _ _ _ _ _ _ _ [.ref (215), .int (xa), .int (xc)] [] _
  refine q_aload_n (by first | assumption | omega | decide | (rw [q_R0e]; omega)) dX11_removeAttack_0 rfl ?_
  refine q_invV (mc' := 0) (ms' := 0) (d' := d - 1) (as := []) dX11_removeAttack_1 kM_X11_begins kL_X11_113 kI_X11_begins kS_X11_begins rfl (kC_X11.1) smo.c0 rfl rfl (Nat.le_of_ble_eq_true rfl) (by omega) (by decide) (by omega) (by omega) (e_mo_begins (d := d - 1) smo (by omega)) (q_kC (fun h1 hB => ?_)) q_xC
  obtain ⟨t1_0, pp1⟩ := hB
  have smo1 : z_Mr h1 215 th (x_cp al 0 10) cg sv rs ac rj ro ad bf ln lz ip ty he er ea fa cm cn := t1_0
  have p1 := p0.trans (pp1.wide (by omega) (by omega))
  have hb_mo_cg := smo1.bcg
  have hb_mo_lz := smo1.blz
  have hb_mo_ty := smo1.bty
  have hb_mo_he := smo1.bhe
  have hb_mo_cn := smo1.bcn
  change q_W _ _ _ _ _ _ _ _ 4 [.ref (215), .int (xa), .int (xc)] [] _
  refine q_aload_n (by first | assumption | omega | decide | (rw [q_R0e]; omega)) dX11_removeAttack_4 rfl ?_
  refine q_aload_n (by first | assumption | omega | decide | (rw [q_R0e]; omega)) dX11_removeAttack_5 rfl ?_
  refine q_iload_n dX11_removeAttack_6 rfl ?_
  refine q_iload_n dX11_removeAttack_7 rfl ?_
  rcases x2 : x_mo_yields (x_cp al 0 10) rs n xa xc with ⟨v2, y2_al, y2_rs⟩
  have e9 := e_mo_yields (g := g) (h := h1) (d := d - 1) (smo1.mo ((x_cp_ne (by omega)).trans e0) hn ((x_cp_ne (by omega)).trans e3) hm) xa xc (by omega)
  rw [x2] at e9
  refine q_invV (mc' := 0) (ms' := 0) (d' := d - 1) (as := [.int (xa), .int (xc)]) dX11_removeAttack_8 kM_X11_yields kL_X11_147 kI_X11_yields kS_X11_yields rfl (kC_X11.1) smo1.c0 rfl rfl (Nat.le_of_ble_eq_true rfl) (by omega) (by decide) (by omega) (by omega) (e9) (q_kC (fun h3 hB => ?_)) q_xC
  obtain ⟨t3_0, pp3⟩ := hB
  have smo3 := t3_0.raw
  have p3 := p1.trans (pp3.wide (by omega) (by omega))
  have hb_mo_cg := smo3.bcg
  have hb_mo_lz := smo3.blz
  have hb_mo_ty := smo3.bty
  have hb_mo_he := smo3.bhe
  have hb_mo_cn := smo3.bcn
  change q_W _ _ _ _ _ _ _ _ 11 [.ref (215), .int (xa), .int (xc)] [.int (v2), .ref (215)] _
  refine q_iconst (v := 0) dX11_removeAttack_11 rfl ?_
  refine q_iconst (v := 0) dX11_removeAttack_12 rfl ?_
  refine q_iconst (v := 1) dX11_removeAttack_13 rfl ?_
  rcases x4 : x_mo_ends y2_al cg y2_rs v2 0 0 1 with ⟨v4, y4_th, y4_al, y4_cg⟩
  have e9 := e_mo_ends (g := g) (h := h3) (d := d - 1) smo3 v2 0 0 1 (by omega)
  rw [x4] at e9
  refine q_invV (mc' := 0) (ms' := 0) (d' := d - 1) (as := [.int (v2), .int (0), .int (0), .int (1)]) dX11_removeAttack_14 kM_X11_ends kL_X11_119 kI_X11_ends kS_X11_ends rfl (kC_X11.1) smo3.c0 rfl rfl (Nat.le_of_ble_eq_true rfl) (by omega) (by decide) (by omega) (by omega) (e9) (q_kC (fun h5 hB => ?_)) q_xC
  obtain ⟨t5_0, pp5⟩ := hB
  have smo5 := t5_0
  have p5 := p3.trans (pp5.wide (by omega) (by omega))
  have hb_mo_cg : y4_cg ≤ 8 := smo5.bcg
  have hb_mo_lz := smo5.blz
  have hb_mo_ty := smo5.bty
  have hb_mo_he := smo5.bhe
  have hb_mo_cn := smo5.bcn
  change q_W _ _ _ _ _ _ _ _ 17 [.ref (215), .int (xa), .int (xc)] [.int (v4)] _
  have hE : x_mo_removeAttack al cg rs n xa xc = (v4, y4_th, y4_al, y4_cg, y2_rs) := by simp only [x_mo_removeAttack, x2, x4]
  rw [hE]
  exact q_ireturn dX11_removeAttack_17 rfl rfl (by omega) (by omega) ⟨rfl, smo5, p5⟩
def x_mo_setWeight (al : Nat → Int32) (cg : Nat) (rs : Int32) (n : Nat) (xa : Int32) (xc : Int32) : (Int32) × (Int32) × (Nat → Int32) × (Nat) × (Int32) := (match x_mo_weighs (x_cp al 0 10) rs n xa xc with | (v2, y2_al, y2_rs) => (match x_mo_ends y2_al cg y2_rs v2 2 0 1 with | (v4, y4_th, y4_al, y4_cg) => (v4, y4_th, y4_al, y4_cg, y2_rs)))
set_option maxRecDepth 100000 in
set_option maxHeartbeats 8000000 in
theorem e_mo_setWeight {g : q_G} {h : q_H} {d : Nat} {th : Int32} {al : Nat → Int32} {cg : Nat} {sv : Bool} {rs : Int32} {ac : Int32} {rj : Int32} {ro : Nat → Int32} {ad : Nat → Int32} {bf : Nat → Int32} {ln : Nat → Int32} {lz : Nat} {ip : Nat → Int32} {ty : Nat} {he : Nat} {er : Int32} {ea : Int32} {fa : Int32} {cm : Nat → Int32} {cn : Nat} (smo : z_Mr h 215 th al cg sv rs ac rj ro ad bf ln lz ip ty he er ea fa cm cn)  (n : Nat) (mn : Nat) (xa : Int32) (xc : Int32) (e0 : al 0 = nI n) (hn : n ≤ 8) (e3 : al 3 = nI mn) (hm : mn ≤ 12)  (hd : 4 ≤ d) : q_Spec g mX11_setWeight d 0 0 [.ref (215), .int (xa), .int (xc)] h (q_chg (.inl (some (.int (x_mo_setWeight al cg rs n xa xc).1))) (fun h1 => z_Mr h1 215 ((x_mo_setWeight al cg rs n xa xc).2.1) ((x_mo_setWeight al cg rs n xa xc).2.2.1) ((x_mo_setWeight al cg rs n xa xc).2.2.2.1) sv ((x_mo_setWeight al cg rs n xa xc).2.2.2.2) ac rj ro ad bf ln lz ip ty he er ea fa cm cn ∧ q_same h h1 215 8)) := by
  have hb_mo_cg := smo.bcg
  have hb_mo_lz := smo.blz
  have hb_mo_ty := smo.bty
  have hb_mo_he := smo.bhe
  have hb_mo_cn := smo.bcn
  have ho_mo_cg := smo.bcg
  have ho_mo_lz := smo.blz
  have ho_mo_ty := smo.bty
  have ho_mo_he := smo.bhe
  have ho_mo_cn := smo.bcn
  have p0 : q_same h h 215 8 := q_same.rfl'
  refine q_enter (by decide +kernel) rfl rfl (Nat.le_of_ble_eq_true rfl) (fun hz => ?_)
  change q_W _ _ _ _ _ _ _ _ _ [.ref (215), .int (xa), .int (xc)] [] _
  refine q_aload_n (by first | assumption | omega | decide | (rw [q_R0e]; omega)) dX11_setWeight_0 rfl ?_
  refine q_invV (mc' := 0) (ms' := 0) (d' := d - 1) (as := []) dX11_setWeight_1 kM_X11_begins kL_X11_113 kI_X11_begins kS_X11_begins rfl (kC_X11.1) smo.c0 rfl rfl (Nat.le_of_ble_eq_true rfl) (by omega) (by decide) (by omega) (by omega) (e_mo_begins (d := d - 1) smo (by omega)) (q_kC (fun h1 hB => ?_)) q_xC
  obtain ⟨t1_0, pp1⟩ := hB
  have smo1 : z_Mr h1 215 th (x_cp al 0 10) cg sv rs ac rj ro ad bf ln lz ip ty he er ea fa cm cn := t1_0
  have p1 := p0.trans (pp1.wide (by omega) (by omega))
  have hb_mo_cg := smo1.bcg
  have hb_mo_lz := smo1.blz
  have hb_mo_ty := smo1.bty
  have hb_mo_he := smo1.bhe
  have hb_mo_cn := smo1.bcn
  change q_W _ _ _ _ _ _ _ _ 4 [.ref (215), .int (xa), .int (xc)] [] _
  refine q_aload_n (by first | assumption | omega | decide | (rw [q_R0e]; omega)) dX11_setWeight_4 rfl ?_
  refine q_aload_n (by first | assumption | omega | decide | (rw [q_R0e]; omega)) dX11_setWeight_5 rfl ?_
  refine q_iload_n dX11_setWeight_6 rfl ?_
  refine q_iload_n dX11_setWeight_7 rfl ?_
  rcases x2 : x_mo_weighs (x_cp al 0 10) rs n xa xc with ⟨v2, y2_al, y2_rs⟩
  have e9 := e_mo_weighs (g := g) (h := h1) (d := d - 1) (smo1.mo ((x_cp_ne (by omega)).trans e0) hn ((x_cp_ne (by omega)).trans e3) hm) xa xc (by omega)
  rw [x2] at e9
  refine q_invV (mc' := 0) (ms' := 0) (d' := d - 1) (as := [.int (xa), .int (xc)]) dX11_setWeight_8 kM_X11_weighs kL_X11_150 kI_X11_weighs kS_X11_weighs rfl (kC_X11.1) smo1.c0 rfl rfl (Nat.le_of_ble_eq_true rfl) (by omega) (by decide) (by omega) (by omega) (e9) (q_kC (fun h3 hB => ?_)) q_xC
  obtain ⟨t3_0, pp3⟩ := hB
  have smo3 := t3_0.raw
  have p3 := p1.trans (pp3.wide (by omega) (by omega))
  have hb_mo_cg := smo3.bcg
  have hb_mo_lz := smo3.blz
  have hb_mo_ty := smo3.bty
  have hb_mo_he := smo3.bhe
  have hb_mo_cn := smo3.bcn
  change q_W _ _ _ _ _ _ _ _ 11 [.ref (215), .int (xa), .int (xc)] [.int (v2), .ref (215)] _
  refine q_iconst (v := 2) dX11_setWeight_11 rfl ?_
  refine q_iconst (v := 0) dX11_setWeight_12 rfl ?_
  refine q_iconst (v := 1) dX11_setWeight_13 rfl ?_
  rcases x4 : x_mo_ends y2_al cg y2_rs v2 2 0 1 with ⟨v4, y4_th, y4_al, y4_cg⟩
  have e9 := e_mo_ends (g := g) (h := h3) (d := d - 1) smo3 v2 2 0 1 (by omega)
  rw [x4] at e9
  refine q_invV (mc' := 0) (ms' := 0) (d' := d - 1) (as := [.int (v2), .int (2), .int (0), .int (1)]) dX11_setWeight_14 kM_X11_ends kL_X11_119 kI_X11_ends kS_X11_ends rfl (kC_X11.1) smo3.c0 rfl rfl (Nat.le_of_ble_eq_true rfl) (by omega) (by decide) (by omega) (by omega) (e9) (q_kC (fun h5 hB => ?_)) q_xC
  obtain ⟨t5_0, pp5⟩ := hB
  have smo5 := t5_0
  have p5 := p3.trans (pp5.wide (by omega) (by omega))
  have hb_mo_cg : y4_cg ≤ 8 := smo5.bcg
  have hb_mo_lz := smo5.blz
  have hb_mo_ty := smo5.bty
  have hb_mo_he := smo5.bhe
  have hb_mo_cn := smo5.bcn
  change q_W _ _ _ _ _ _ _ _ 17 [.ref (215), .int (xa), .int (xc)] [.int (v4)] _
  have hE : x_mo_setWeight al cg rs n xa xc = (v4, y4_th, y4_al, y4_cg, y2_rs) := by simp only [x_mo_setWeight, x2, x4]
  rw [hE]
  exact q_ireturn dX11_setWeight_17 rfl rfl (by omega) (by omega) ⟨rfl, smo5, p5⟩
def x_mo_renew (al : Nat → Int32) (cg : Nat) (rs : Int32) (n : Nat) (xa : Int32) : (Int32) × (Int32) × (Nat → Int32) × (Nat) × (Int32) := (match x_mo_renews (x_cp al 0 10) rs n xa with | (v2, y2_al, y2_rs) => (match x_mo_ends y2_al cg y2_rs v2 0 0 1 with | (v4, y4_th, y4_al, y4_cg) => (v4, y4_th, y4_al, y4_cg, y2_rs)))
set_option maxRecDepth 100000 in
set_option maxHeartbeats 8000000 in
theorem e_mo_renew {g : q_G} {h : q_H} {d : Nat} {th : Int32} {al : Nat → Int32} {cg : Nat} {sv : Bool} {rs : Int32} {ac : Int32} {rj : Int32} {ro : Nat → Int32} {ad : Nat → Int32} {bf : Nat → Int32} {ln : Nat → Int32} {lz : Nat} {ip : Nat → Int32} {ty : Nat} {he : Nat} {er : Int32} {ea : Int32} {fa : Int32} {cm : Nat → Int32} {cn : Nat} (smo : z_Mr h 215 th al cg sv rs ac rj ro ad bf ln lz ip ty he er ea fa cm cn)  (n : Nat) (mn : Nat) (xa : Int32) (e0 : al 0 = nI n) (hn : n ≤ 8) (e3 : al 3 = nI mn) (hm : mn ≤ 12)  (hd : 4 ≤ d) : q_Spec g mX11_renew d 0 0 [.ref (215), .int (xa)] h (q_chg (.inl (some (.int (x_mo_renew al cg rs n xa).1))) (fun h1 => z_Mr h1 215 ((x_mo_renew al cg rs n xa).2.1) ((x_mo_renew al cg rs n xa).2.2.1) ((x_mo_renew al cg rs n xa).2.2.2.1) sv ((x_mo_renew al cg rs n xa).2.2.2.2) ac rj ro ad bf ln lz ip ty he er ea fa cm cn ∧ q_same h h1 215 8)) := by
  have hb_mo_cg := smo.bcg
  have hb_mo_lz := smo.blz
  have hb_mo_ty := smo.bty
  have hb_mo_he := smo.bhe
  have hb_mo_cn := smo.bcn
  have ho_mo_cg := smo.bcg
  have ho_mo_lz := smo.blz
  have ho_mo_ty := smo.bty
  have ho_mo_he := smo.bhe
  have ho_mo_cn := smo.bcn
  have p0 : q_same h h 215 8 := q_same.rfl'
  refine q_enter (by decide +kernel) rfl rfl (Nat.le_of_ble_eq_true rfl) (fun hz => ?_)
  change q_W _ _ _ _ _ _ _ _ _ [.ref (215), .int (xa)] [] _
  refine q_aload_n (by first | assumption | omega | decide | (rw [q_R0e]; omega)) dX11_renew_0 rfl ?_
  refine q_invV (mc' := 0) (ms' := 0) (d' := d - 1) (as := []) dX11_renew_1 kM_X11_begins kL_X11_113 kI_X11_begins kS_X11_begins rfl (kC_X11.1) smo.c0 rfl rfl (Nat.le_of_ble_eq_true rfl) (by omega) (by decide) (by omega) (by omega) (e_mo_begins (d := d - 1) smo (by omega)) (q_kC (fun h1 hB => ?_)) q_xC
  obtain ⟨t1_0, pp1⟩ := hB
  have smo1 : z_Mr h1 215 th (x_cp al 0 10) cg sv rs ac rj ro ad bf ln lz ip ty he er ea fa cm cn := t1_0
  have p1 := p0.trans (pp1.wide (by omega) (by omega))
  have hb_mo_cg := smo1.bcg
  have hb_mo_lz := smo1.blz
  have hb_mo_ty := smo1.bty
  have hb_mo_he := smo1.bhe
  have hb_mo_cn := smo1.bcn
  change q_W _ _ _ _ _ _ _ _ 4 [.ref (215), .int (xa)] [] _
  refine q_aload_n (by first | assumption | omega | decide | (rw [q_R0e]; omega)) dX11_renew_4 rfl ?_
  refine q_aload_n (by first | assumption | omega | decide | (rw [q_R0e]; omega)) dX11_renew_5 rfl ?_
  refine q_iload_n dX11_renew_6 rfl ?_
  rcases x2 : x_mo_renews (x_cp al 0 10) rs n xa with ⟨v2, y2_al, y2_rs⟩
  have e9 := e_mo_renews (g := g) (h := h1) (d := d - 1) (smo1.mo ((x_cp_ne (by omega)).trans e0) hn ((x_cp_ne (by omega)).trans e3) hm) xa (by omega)
  rw [x2] at e9
  refine q_invV (mc' := 0) (ms' := 0) (d' := d - 1) (as := [.int (xa)]) dX11_renew_7 kM_X11_renews kL_X11_153 kI_X11_renews kS_X11_renews rfl (kC_X11.1) smo1.c0 rfl rfl (Nat.le_of_ble_eq_true rfl) (by omega) (by decide) (by omega) (by omega) (e9) (q_kC (fun h3 hB => ?_)) q_xC
  obtain ⟨t3_0, pp3⟩ := hB
  have smo3 := t3_0.raw
  have p3 := p1.trans (pp3.wide (by omega) (by omega))
  have hb_mo_cg := smo3.bcg
  have hb_mo_lz := smo3.blz
  have hb_mo_ty := smo3.bty
  have hb_mo_he := smo3.bhe
  have hb_mo_cn := smo3.bcn
  change q_W _ _ _ _ _ _ _ _ 10 [.ref (215), .int (xa)] [.int (v2), .ref (215)] _
  refine q_iconst (v := 0) dX11_renew_10 rfl ?_
  refine q_iconst (v := 0) dX11_renew_11 rfl ?_
  refine q_iconst (v := 1) dX11_renew_12 rfl ?_
  rcases x4 : x_mo_ends y2_al cg y2_rs v2 0 0 1 with ⟨v4, y4_th, y4_al, y4_cg⟩
  have e9 := e_mo_ends (g := g) (h := h3) (d := d - 1) smo3 v2 0 0 1 (by omega)
  rw [x4] at e9
  refine q_invV (mc' := 0) (ms' := 0) (d' := d - 1) (as := [.int (v2), .int (0), .int (0), .int (1)]) dX11_renew_13 kM_X11_ends kL_X11_119 kI_X11_ends kS_X11_ends rfl (kC_X11.1) smo3.c0 rfl rfl (Nat.le_of_ble_eq_true rfl) (by omega) (by decide) (by omega) (by omega) (e9) (q_kC (fun h5 hB => ?_)) q_xC
  obtain ⟨t5_0, pp5⟩ := hB
  have smo5 := t5_0
  have p5 := p3.trans (pp5.wide (by omega) (by omega))
  have hb_mo_cg : y4_cg ≤ 8 := smo5.bcg
  have hb_mo_lz := smo5.blz
  have hb_mo_ty := smo5.bty
  have hb_mo_he := smo5.bhe
  have hb_mo_cn := smo5.bcn
  change q_W _ _ _ _ _ _ _ _ 16 [.ref (215), .int (xa)] [.int (v4)] _
  have hE : x_mo_renew al cg rs n xa = (v4, y4_th, y4_al, y4_cg, y2_rs) := by simp only [x_mo_renew, x2, x4]
  rw [hE]
  exact q_ireturn dX11_renew_16 rfl rfl (by omega) (by omega) ⟨rfl, smo5, p5⟩
def x_mo_startDialogue (al : Nat → Int32) (cg : Nat) (rs : Int32) (n : Nat) (mn : Nat) (xa : Int32) : (Int32) × (Int32) × (Nat → Int32) × (Nat) × (Int32) := (match x_mo_claims (x_cp al 0 10) rs n mn xa with | (v2, y2_al, y2_rs, y2_mn) => (match x_mo_ends y2_al cg y2_rs v2 0 2 1 with | (v4, y4_th, y4_al, y4_cg) => (v4, y4_th, y4_al, y4_cg, y2_rs)))
set_option maxRecDepth 100000 in
set_option maxHeartbeats 8000000 in
theorem e_mo_startDialogue {g : q_G} {h : q_H} {d : Nat} {th : Int32} {al : Nat → Int32} {cg : Nat} {sv : Bool} {rs : Int32} {ac : Int32} {rj : Int32} {ro : Nat → Int32} {ad : Nat → Int32} {bf : Nat → Int32} {ln : Nat → Int32} {lz : Nat} {ip : Nat → Int32} {ty : Nat} {he : Nat} {er : Int32} {ea : Int32} {fa : Int32} {cm : Nat → Int32} {cn : Nat} (smo : z_Mr h 215 th al cg sv rs ac rj ro ad bf ln lz ip ty he er ea fa cm cn)  (n : Nat) (mn : Nat) (xa : Int32) (e0 : al 0 = nI n) (hn : n ≤ 8) (e3 : al 3 = nI mn) (hm : mn ≤ 12)  (hd : 5 ≤ d) : q_Spec g mX11_startDialogue d 0 0 [.ref (215), .int (xa)] h (q_chg (.inl (some (.int (x_mo_startDialogue al cg rs n mn xa).1))) (fun h1 => z_Mr h1 215 ((x_mo_startDialogue al cg rs n mn xa).2.1) ((x_mo_startDialogue al cg rs n mn xa).2.2.1) ((x_mo_startDialogue al cg rs n mn xa).2.2.2.1) sv ((x_mo_startDialogue al cg rs n mn xa).2.2.2.2) ac rj ro ad bf ln lz ip ty he er ea fa cm cn ∧ q_same h h1 215 8)) := by
  have hb_mo_cg := smo.bcg
  have hb_mo_lz := smo.blz
  have hb_mo_ty := smo.bty
  have hb_mo_he := smo.bhe
  have hb_mo_cn := smo.bcn
  have ho_mo_cg := smo.bcg
  have ho_mo_lz := smo.blz
  have ho_mo_ty := smo.bty
  have ho_mo_he := smo.bhe
  have ho_mo_cn := smo.bcn
  have p0 : q_same h h 215 8 := q_same.rfl'
  refine q_enter (by decide +kernel) rfl rfl (Nat.le_of_ble_eq_true rfl) (fun hz => ?_)
  change q_W _ _ _ _ _ _ _ _ _ [.ref (215), .int (xa)] [] _
  refine q_aload_n (by first | assumption | omega | decide | (rw [q_R0e]; omega)) dX11_startDialogue_0 rfl ?_
  refine q_invV (mc' := 0) (ms' := 0) (d' := d - 1) (as := []) dX11_startDialogue_1 kM_X11_begins kL_X11_113 kI_X11_begins kS_X11_begins rfl (kC_X11.1) smo.c0 rfl rfl (Nat.le_of_ble_eq_true rfl) (by omega) (by decide) (by omega) (by omega) (e_mo_begins (d := d - 1) smo (by omega)) (q_kC (fun h1 hB => ?_)) q_xC
  obtain ⟨t1_0, pp1⟩ := hB
  have smo1 : z_Mr h1 215 th (x_cp al 0 10) cg sv rs ac rj ro ad bf ln lz ip ty he er ea fa cm cn := t1_0
  have p1 := p0.trans (pp1.wide (by omega) (by omega))
  have hb_mo_cg := smo1.bcg
  have hb_mo_lz := smo1.blz
  have hb_mo_ty := smo1.bty
  have hb_mo_he := smo1.bhe
  have hb_mo_cn := smo1.bcn
  change q_W _ _ _ _ _ _ _ _ 4 [.ref (215), .int (xa)] [] _
  refine q_aload_n (by first | assumption | omega | decide | (rw [q_R0e]; omega)) dX11_startDialogue_4 rfl ?_
  refine q_aload_n (by first | assumption | omega | decide | (rw [q_R0e]; omega)) dX11_startDialogue_5 rfl ?_
  refine q_iload_n dX11_startDialogue_6 rfl ?_
  rcases x2 : x_mo_claims (x_cp al 0 10) rs n mn xa with ⟨v2, y2_al, y2_rs, y2_mn⟩
  have e9 := e_mo_claims (g := g) (h := h1) (d := d - 1) (smo1.mo ((x_cp_ne (by omega)).trans e0) hn ((x_cp_ne (by omega)).trans e3) hm) xa (by omega)
  rw [x2] at e9
  refine q_invV (mc' := 0) (ms' := 0) (d' := d - 1) (as := [.int (xa)]) dX11_startDialogue_7 kM_X11_claims kL_X11_156 kI_X11_claims kS_X11_claims rfl (kC_X11.1) smo1.c0 rfl rfl (Nat.le_of_ble_eq_true rfl) (by omega) (by decide) (by omega) (by omega) (e9) (q_kC (fun h3 hB => ?_)) q_xC
  obtain ⟨t3_0, pp3⟩ := hB
  have smo3 := t3_0.raw
  have p3 := p1.trans (pp3.wide (by omega) (by omega))
  have hb_mo_cg := smo3.bcg
  have hb_mo_lz := smo3.blz
  have hb_mo_ty := smo3.bty
  have hb_mo_he := smo3.bhe
  have hb_mo_cn := smo3.bcn
  change q_W _ _ _ _ _ _ _ _ 10 [.ref (215), .int (xa)] [.int (v2), .ref (215)] _
  refine q_iconst (v := 0) dX11_startDialogue_10 rfl ?_
  refine q_iconst (v := 2) dX11_startDialogue_11 rfl ?_
  refine q_iconst (v := 1) dX11_startDialogue_12 rfl ?_
  rcases x4 : x_mo_ends y2_al cg y2_rs v2 0 2 1 with ⟨v4, y4_th, y4_al, y4_cg⟩
  have e9 := e_mo_ends (g := g) (h := h3) (d := d - 1) smo3 v2 0 2 1 (by omega)
  rw [x4] at e9
  refine q_invV (mc' := 0) (ms' := 0) (d' := d - 1) (as := [.int (v2), .int (0), .int (2), .int (1)]) dX11_startDialogue_13 kM_X11_ends kL_X11_119 kI_X11_ends kS_X11_ends rfl (kC_X11.1) smo3.c0 rfl rfl (Nat.le_of_ble_eq_true rfl) (by omega) (by decide) (by omega) (by omega) (e9) (q_kC (fun h5 hB => ?_)) q_xC
  obtain ⟨t5_0, pp5⟩ := hB
  have smo5 := t5_0
  have p5 := p3.trans (pp5.wide (by omega) (by omega))
  have hb_mo_cg : y4_cg ≤ 8 := smo5.bcg
  have hb_mo_lz := smo5.blz
  have hb_mo_ty := smo5.bty
  have hb_mo_he := smo5.bhe
  have hb_mo_cn := smo5.bcn
  change q_W _ _ _ _ _ _ _ _ 16 [.ref (215), .int (xa)] [.int (v4)] _
  have hE : x_mo_startDialogue al cg rs n mn xa = (v4, y4_th, y4_al, y4_cg, y2_rs) := by simp only [x_mo_startDialogue, x2, x4]
  rw [hE]
  exact q_ireturn dX11_startDialogue_16 rfl rfl (by omega) (by omega) ⟨rfl, smo5, p5⟩
def x_mo_move (al : Nat → Int32) (cg : Nat) (rs : Int32) (n : Nat) (mn : Nat) (xa : Int32) : (Int32) × (Int32) × (Nat → Int32) × (Nat) × (Int32) := (match x_mo_replies (x_cp al 0 10) rs n mn xa with | (v2, y2_al, y2_rs, y2_mn) => (match x_mo_ends y2_al cg y2_rs v2 2 3 1 with | (v4, y4_th, y4_al, y4_cg) => (v4, y4_th, y4_al, y4_cg, y2_rs)))
set_option maxRecDepth 100000 in
set_option maxHeartbeats 8000000 in
theorem e_mo_move {g : q_G} {h : q_H} {d : Nat} {th : Int32} {al : Nat → Int32} {cg : Nat} {sv : Bool} {rs : Int32} {ac : Int32} {rj : Int32} {ro : Nat → Int32} {ad : Nat → Int32} {bf : Nat → Int32} {ln : Nat → Int32} {lz : Nat} {ip : Nat → Int32} {ty : Nat} {he : Nat} {er : Int32} {ea : Int32} {fa : Int32} {cm : Nat → Int32} {cn : Nat} (smo : z_Mr h 215 th al cg sv rs ac rj ro ad bf ln lz ip ty he er ea fa cm cn)  (n : Nat) (mn : Nat) (xa : Int32) (e0 : al 0 = nI n) (hn : n ≤ 8) (e3 : al 3 = nI mn) (hm : mn ≤ 12) (hlm : mn ≠ 0 → 0 < x_pl n al (al (39 + mn - 1)))  (hd : 6 ≤ d) : q_Spec g mX11_move d 0 0 [.ref (215), .int (xa)] h (q_chg (.inl (some (.int (x_mo_move al cg rs n mn xa).1))) (fun h1 => z_Mr h1 215 ((x_mo_move al cg rs n mn xa).2.1) ((x_mo_move al cg rs n mn xa).2.2.1) ((x_mo_move al cg rs n mn xa).2.2.2.1) sv ((x_mo_move al cg rs n mn xa).2.2.2.2) ac rj ro ad bf ln lz ip ty he er ea fa cm cn ∧ q_same h h1 215 8)) := by
  have hb_mo_cg := smo.bcg
  have hb_mo_lz := smo.blz
  have hb_mo_ty := smo.bty
  have hb_mo_he := smo.bhe
  have hb_mo_cn := smo.bcn
  have ho_mo_cg := smo.bcg
  have ho_mo_lz := smo.blz
  have ho_mo_ty := smo.bty
  have ho_mo_he := smo.bhe
  have ho_mo_cn := smo.bcn
  have p0 : q_same h h 215 8 := q_same.rfl'
  refine q_enter (by decide +kernel) rfl rfl (Nat.le_of_ble_eq_true rfl) (fun hz => ?_)
  change q_W _ _ _ _ _ _ _ _ _ [.ref (215), .int (xa)] [] _
  refine q_aload_n (by first | assumption | omega | decide | (rw [q_R0e]; omega)) dX11_move_0 rfl ?_
  refine q_invV (mc' := 0) (ms' := 0) (d' := d - 1) (as := []) dX11_move_1 kM_X11_begins kL_X11_113 kI_X11_begins kS_X11_begins rfl (kC_X11.1) smo.c0 rfl rfl (Nat.le_of_ble_eq_true rfl) (by omega) (by decide) (by omega) (by omega) (e_mo_begins (d := d - 1) smo (by omega)) (q_kC (fun h1 hB => ?_)) q_xC
  obtain ⟨t1_0, pp1⟩ := hB
  have smo1 : z_Mr h1 215 th (x_cp al 0 10) cg sv rs ac rj ro ad bf ln lz ip ty he er ea fa cm cn := t1_0
  have p1 := p0.trans (pp1.wide (by omega) (by omega))
  have hb_mo_cg := smo1.bcg
  have hb_mo_lz := smo1.blz
  have hb_mo_ty := smo1.bty
  have hb_mo_he := smo1.bhe
  have hb_mo_cn := smo1.bcn
  change q_W _ _ _ _ _ _ _ _ 4 [.ref (215), .int (xa)] [] _
  refine q_aload_n (by first | assumption | omega | decide | (rw [q_R0e]; omega)) dX11_move_4 rfl ?_
  refine q_aload_n (by first | assumption | omega | decide | (rw [q_R0e]; omega)) dX11_move_5 rfl ?_
  refine q_iload_n dX11_move_6 rfl ?_
  rcases x2 : x_mo_replies (x_cp al 0 10) rs n mn xa with ⟨v2, y2_al, y2_rs, y2_mn⟩
  have e9 := e_mo_replies (g := g) (h := h1) (d := d - 1) (smo1.mo ((x_cp_ne (by omega)).trans e0) hn ((x_cp_ne (by omega)).trans e3) hm) xa (fun q => by rw [x_pl_cp (by omega) hn, x_cp_ne (by omega)]; exact hlm q) (by omega)
  rw [x2] at e9
  refine q_invV (mc' := 0) (ms' := 0) (d' := d - 1) (as := [.int (xa)]) dX11_move_7 kM_X11_replies kL_X11_162 kI_X11_replies kS_X11_replies rfl (kC_X11.1) smo1.c0 rfl rfl (Nat.le_of_ble_eq_true rfl) (by omega) (by decide) (by omega) (by omega) (e9) (q_kC (fun h3 hB => ?_)) q_xC
  obtain ⟨t3_0, pp3⟩ := hB
  have smo3 := t3_0.raw
  have p3 := p1.trans (pp3.wide (by omega) (by omega))
  have hb_mo_cg := smo3.bcg
  have hb_mo_lz := smo3.blz
  have hb_mo_ty := smo3.bty
  have hb_mo_he := smo3.bhe
  have hb_mo_cn := smo3.bcn
  change q_W _ _ _ _ _ _ _ _ 10 [.ref (215), .int (xa)] [.int (v2), .ref (215)] _
  refine q_iconst (v := 2) dX11_move_10 rfl ?_
  refine q_iconst (v := 3) dX11_move_11 rfl ?_
  refine q_iconst (v := 1) dX11_move_12 rfl ?_
  rcases x4 : x_mo_ends y2_al cg y2_rs v2 2 3 1 with ⟨v4, y4_th, y4_al, y4_cg⟩
  have e9 := e_mo_ends (g := g) (h := h3) (d := d - 1) smo3 v2 2 3 1 (by omega)
  rw [x4] at e9
  refine q_invV (mc' := 0) (ms' := 0) (d' := d - 1) (as := [.int (v2), .int (2), .int (3), .int (1)]) dX11_move_13 kM_X11_ends kL_X11_119 kI_X11_ends kS_X11_ends rfl (kC_X11.1) smo3.c0 rfl rfl (Nat.le_of_ble_eq_true rfl) (by omega) (by decide) (by omega) (by omega) (e9) (q_kC (fun h5 hB => ?_)) q_xC
  obtain ⟨t5_0, pp5⟩ := hB
  have smo5 := t5_0
  have p5 := p3.trans (pp5.wide (by omega) (by omega))
  have hb_mo_cg : y4_cg ≤ 8 := smo5.bcg
  have hb_mo_lz := smo5.blz
  have hb_mo_ty := smo5.bty
  have hb_mo_he := smo5.bhe
  have hb_mo_cn := smo5.bcn
  change q_W _ _ _ _ _ _ _ _ 16 [.ref (215), .int (xa)] [.int (v4)] _
  have hE : x_mo_move al cg rs n mn xa = (v4, y4_th, y4_al, y4_cg, y2_rs) := by simp only [x_mo_move, x2, x4]
  rw [hE]
  exact q_ireturn dX11_move_16 rfl rfl (by omega) (by omega) ⟨rfl, smo5, p5⟩
def x_mo_takeBack (al : Nat → Int32) (cg : Nat) (rs : Int32) (mn : Nat) : (Int32) × (Int32) × (Nat → Int32) × (Nat) × (Int32) := (match x_mo_takes (x_cp al 0 10) rs mn with | (v2, y2_al, y2_rs, y2_mn) => (match x_mo_ends y2_al cg y2_rs v2 0 2 1 with | (v4, y4_th, y4_al, y4_cg) => (v4, y4_th, y4_al, y4_cg, y2_rs)))
set_option maxRecDepth 100000 in
set_option maxHeartbeats 8000000 in
theorem e_mo_takeBack {g : q_G} {h : q_H} {d : Nat} {th : Int32} {al : Nat → Int32} {cg : Nat} {sv : Bool} {rs : Int32} {ac : Int32} {rj : Int32} {ro : Nat → Int32} {ad : Nat → Int32} {bf : Nat → Int32} {ln : Nat → Int32} {lz : Nat} {ip : Nat → Int32} {ty : Nat} {he : Nat} {er : Int32} {ea : Int32} {fa : Int32} {cm : Nat → Int32} {cn : Nat} (smo : z_Mr h 215 th al cg sv rs ac rj ro ad bf ln lz ip ty he er ea fa cm cn)  (n : Nat) (mn : Nat) (e0 : al 0 = nI n) (hn : n ≤ 8) (e3 : al 3 = nI mn) (hm : mn ≤ 12)  (hd : 2 ≤ d) : q_Spec g mX11_takeBack d 0 0 [.ref (215)] h (q_chg (.inl (some (.int (x_mo_takeBack al cg rs mn).1))) (fun h1 => z_Mr h1 215 ((x_mo_takeBack al cg rs mn).2.1) ((x_mo_takeBack al cg rs mn).2.2.1) ((x_mo_takeBack al cg rs mn).2.2.2.1) sv ((x_mo_takeBack al cg rs mn).2.2.2.2) ac rj ro ad bf ln lz ip ty he er ea fa cm cn ∧ q_same h h1 215 8)) := by
  have hb_mo_cg := smo.bcg
  have hb_mo_lz := smo.blz
  have hb_mo_ty := smo.bty
  have hb_mo_he := smo.bhe
  have hb_mo_cn := smo.bcn
  have ho_mo_cg := smo.bcg
  have ho_mo_lz := smo.blz
  have ho_mo_ty := smo.bty
  have ho_mo_he := smo.bhe
  have ho_mo_cn := smo.bcn
  have p0 : q_same h h 215 8 := q_same.rfl'
  refine q_enter (by decide +kernel) rfl rfl (Nat.le_of_ble_eq_true rfl) (fun hz => ?_)
  change q_W _ _ _ _ _ _ _ _ _ [.ref (215)] [] _
  refine q_aload_n (by first | assumption | omega | decide | (rw [q_R0e]; omega)) dX11_takeBack_0 rfl ?_
  refine q_invV (mc' := 0) (ms' := 0) (d' := d - 1) (as := []) dX11_takeBack_1 kM_X11_begins kL_X11_113 kI_X11_begins kS_X11_begins rfl (kC_X11.1) smo.c0 rfl rfl (Nat.le_of_ble_eq_true rfl) (by omega) (by decide) (by omega) (by omega) (e_mo_begins (d := d - 1) smo (by omega)) (q_kC (fun h1 hB => ?_)) q_xC
  obtain ⟨t1_0, pp1⟩ := hB
  have smo1 : z_Mr h1 215 th (x_cp al 0 10) cg sv rs ac rj ro ad bf ln lz ip ty he er ea fa cm cn := t1_0
  have p1 := p0.trans (pp1.wide (by omega) (by omega))
  have hb_mo_cg := smo1.bcg
  have hb_mo_lz := smo1.blz
  have hb_mo_ty := smo1.bty
  have hb_mo_he := smo1.bhe
  have hb_mo_cn := smo1.bcn
  change q_W _ _ _ _ _ _ _ _ 4 [.ref (215)] [] _
  refine q_aload_n (by first | assumption | omega | decide | (rw [q_R0e]; omega)) dX11_takeBack_4 rfl ?_
  refine q_aload_n (by first | assumption | omega | decide | (rw [q_R0e]; omega)) dX11_takeBack_5 rfl ?_
  rcases x2 : x_mo_takes (x_cp al 0 10) rs mn with ⟨v2, y2_al, y2_rs, y2_mn⟩
  have e9 := e_mo_takes (g := g) (h := h1) (d := d - 1) (smo1.mo ((x_cp_ne (by omega)).trans e0) hn ((x_cp_ne (by omega)).trans e3) hm) (by omega)
  rw [x2] at e9
  refine q_invV (mc' := 0) (ms' := 0) (d' := d - 1) (as := []) dX11_takeBack_6 kM_X11_takes kL_X11_165 kI_X11_takes kS_X11_takes rfl (kC_X11.1) smo1.c0 rfl rfl (Nat.le_of_ble_eq_true rfl) (by omega) (by decide) (by omega) (by omega) (e9) (q_kC (fun h3 hB => ?_)) q_xC
  obtain ⟨t3_0, pp3⟩ := hB
  have smo3 := t3_0.raw
  have p3 := p1.trans (pp3.wide (by omega) (by omega))
  have hb_mo_cg := smo3.bcg
  have hb_mo_lz := smo3.blz
  have hb_mo_ty := smo3.bty
  have hb_mo_he := smo3.bhe
  have hb_mo_cn := smo3.bcn
  change q_W _ _ _ _ _ _ _ _ 9 [.ref (215)] [.int (v2), .ref (215)] _
  refine q_iconst (v := 0) dX11_takeBack_9 rfl ?_
  refine q_iconst (v := 2) dX11_takeBack_10 rfl ?_
  refine q_iconst (v := 1) dX11_takeBack_11 rfl ?_
  rcases x4 : x_mo_ends y2_al cg y2_rs v2 0 2 1 with ⟨v4, y4_th, y4_al, y4_cg⟩
  have e9 := e_mo_ends (g := g) (h := h3) (d := d - 1) smo3 v2 0 2 1 (by omega)
  rw [x4] at e9
  refine q_invV (mc' := 0) (ms' := 0) (d' := d - 1) (as := [.int (v2), .int (0), .int (2), .int (1)]) dX11_takeBack_12 kM_X11_ends kL_X11_119 kI_X11_ends kS_X11_ends rfl (kC_X11.1) smo3.c0 rfl rfl (Nat.le_of_ble_eq_true rfl) (by omega) (by decide) (by omega) (by omega) (e9) (q_kC (fun h5 hB => ?_)) q_xC
  obtain ⟨t5_0, pp5⟩ := hB
  have smo5 := t5_0
  have p5 := p3.trans (pp5.wide (by omega) (by omega))
  have hb_mo_cg : y4_cg ≤ 8 := smo5.bcg
  have hb_mo_lz := smo5.blz
  have hb_mo_ty := smo5.bty
  have hb_mo_he := smo5.bhe
  have hb_mo_cn := smo5.bcn
  change q_W _ _ _ _ _ _ _ _ 15 [.ref (215)] [.int (v4)] _
  have hE : x_mo_takeBack al cg rs mn = (v4, y4_th, y4_al, y4_cg, y2_rs) := by simp only [x_mo_takeBack, x2, x4]
  rw [hE]
  exact q_ireturn dX11_takeBack_15 rfl rfl (by omega) (by omega) ⟨rfl, smo5, p5⟩
def x_mo_endDialogue (al : Nat → Int32) (cg : Nat) (rs : Int32) (mn : Nat) : (Int32) × (Int32) × (Nat → Int32) × (Nat) × (Int32) := (match x_mo_closes (x_cp al 0 10) rs mn with | (v2, y2_al, y2_rs, y2_mn) => (match x_mo_ends y2_al cg y2_rs v2 0 0 1 with | (v4, y4_th, y4_al, y4_cg) => (((v4).toUInt32 % 65536).toInt32, y4_th, y4_al, y4_cg, y2_rs)))
set_option maxRecDepth 100000 in
set_option maxHeartbeats 8000000 in
theorem e_mo_endDialogue {g : q_G} {h : q_H} {d : Nat} {th : Int32} {al : Nat → Int32} {cg : Nat} {sv : Bool} {rs : Int32} {ac : Int32} {rj : Int32} {ro : Nat → Int32} {ad : Nat → Int32} {bf : Nat → Int32} {ln : Nat → Int32} {lz : Nat} {ip : Nat → Int32} {ty : Nat} {he : Nat} {er : Int32} {ea : Int32} {fa : Int32} {cm : Nat → Int32} {cn : Nat} (smo : z_Mr h 215 th al cg sv rs ac rj ro ad bf ln lz ip ty he er ea fa cm cn)  (n : Nat) (mn : Nat) (e0 : al 0 = nI n) (hn : n ≤ 8) (e3 : al 3 = nI mn) (hm : mn ≤ 12)  (hd : 2 ≤ d) : q_Spec g mX11_endDialogue d 0 0 [.ref (215)] h (q_chg (.inl (some (.int (x_mo_endDialogue al cg rs mn).1))) (fun h1 => z_Mr h1 215 ((x_mo_endDialogue al cg rs mn).2.1) ((x_mo_endDialogue al cg rs mn).2.2.1) ((x_mo_endDialogue al cg rs mn).2.2.2.1) sv ((x_mo_endDialogue al cg rs mn).2.2.2.2) ac rj ro ad bf ln lz ip ty he er ea fa cm cn ∧ q_same h h1 215 8)) := by
  have hb_mo_cg := smo.bcg
  have hb_mo_lz := smo.blz
  have hb_mo_ty := smo.bty
  have hb_mo_he := smo.bhe
  have hb_mo_cn := smo.bcn
  have ho_mo_cg := smo.bcg
  have ho_mo_lz := smo.blz
  have ho_mo_ty := smo.bty
  have ho_mo_he := smo.bhe
  have ho_mo_cn := smo.bcn
  have p0 : q_same h h 215 8 := q_same.rfl'
  refine q_enter (by decide +kernel) rfl rfl (Nat.le_of_ble_eq_true rfl) (fun hz => ?_)
  change q_W _ _ _ _ _ _ _ _ _ [.ref (215)] [] _
  refine q_aload_n (by first | assumption | omega | decide | (rw [q_R0e]; omega)) dX11_endDialogue_0 rfl ?_
  refine q_invV (mc' := 0) (ms' := 0) (d' := d - 1) (as := []) dX11_endDialogue_1 kM_X11_begins kL_X11_113 kI_X11_begins kS_X11_begins rfl (kC_X11.1) smo.c0 rfl rfl (Nat.le_of_ble_eq_true rfl) (by omega) (by decide) (by omega) (by omega) (e_mo_begins (d := d - 1) smo (by omega)) (q_kC (fun h1 hB => ?_)) q_xC
  obtain ⟨t1_0, pp1⟩ := hB
  have smo1 : z_Mr h1 215 th (x_cp al 0 10) cg sv rs ac rj ro ad bf ln lz ip ty he er ea fa cm cn := t1_0
  have p1 := p0.trans (pp1.wide (by omega) (by omega))
  have hb_mo_cg := smo1.bcg
  have hb_mo_lz := smo1.blz
  have hb_mo_ty := smo1.bty
  have hb_mo_he := smo1.bhe
  have hb_mo_cn := smo1.bcn
  change q_W _ _ _ _ _ _ _ _ 4 [.ref (215)] [] _
  refine q_aload_n (by first | assumption | omega | decide | (rw [q_R0e]; omega)) dX11_endDialogue_4 rfl ?_
  refine q_aload_n (by first | assumption | omega | decide | (rw [q_R0e]; omega)) dX11_endDialogue_5 rfl ?_
  rcases x2 : x_mo_closes (x_cp al 0 10) rs mn with ⟨v2, y2_al, y2_rs, y2_mn⟩
  have e9 := e_mo_closes (g := g) (h := h1) (d := d - 1) (smo1.mo ((x_cp_ne (by omega)).trans e0) hn ((x_cp_ne (by omega)).trans e3) hm) (by omega)
  rw [x2] at e9
  refine q_invV (mc' := 0) (ms' := 0) (d' := d - 1) (as := []) dX11_endDialogue_6 kM_X11_closes kL_X11_168 kI_X11_closes kS_X11_closes rfl (kC_X11.1) smo1.c0 rfl rfl (Nat.le_of_ble_eq_true rfl) (by omega) (by decide) (by omega) (by omega) (e9) (q_kC (fun h3 hB => ?_)) q_xC
  obtain ⟨t3_0, pp3⟩ := hB
  have smo3 := t3_0.raw
  have p3 := p1.trans (pp3.wide (by omega) (by omega))
  have hb_mo_cg := smo3.bcg
  have hb_mo_lz := smo3.blz
  have hb_mo_ty := smo3.bty
  have hb_mo_he := smo3.bhe
  have hb_mo_cn := smo3.bcn
  change q_W _ _ _ _ _ _ _ _ 9 [.ref (215)] [.int (v2), .ref (215)] _
  refine q_iconst (v := 0) dX11_endDialogue_9 rfl ?_
  refine q_iconst (v := 0) dX11_endDialogue_10 rfl ?_
  refine q_iconst (v := 1) dX11_endDialogue_11 rfl ?_
  rcases x4 : x_mo_ends y2_al cg y2_rs v2 0 0 1 with ⟨v4, y4_th, y4_al, y4_cg⟩
  have e9 := e_mo_ends (g := g) (h := h3) (d := d - 1) smo3 v2 0 0 1 (by omega)
  rw [x4] at e9
  refine q_invV (mc' := 0) (ms' := 0) (d' := d - 1) (as := [.int (v2), .int (0), .int (0), .int (1)]) dX11_endDialogue_12 kM_X11_ends kL_X11_119 kI_X11_ends kS_X11_ends rfl (kC_X11.1) smo3.c0 rfl rfl (Nat.le_of_ble_eq_true rfl) (by omega) (by decide) (by omega) (by omega) (e9) (q_kC (fun h5 hB => ?_)) q_xC
  obtain ⟨t5_0, pp5⟩ := hB
  have smo5 := t5_0
  have p5 := p3.trans (pp5.wide (by omega) (by omega))
  have hb_mo_cg : y4_cg ≤ 8 := smo5.bcg
  have hb_mo_lz := smo5.blz
  have hb_mo_ty := smo5.bty
  have hb_mo_he := smo5.bhe
  have hb_mo_cn := smo5.bcn
  change q_W _ _ _ _ _ _ _ _ 15 [.ref (215)] [.int (v4)] _
  refine q_i2c dX11_endDialogue_15 rfl ?_
  have hE : x_mo_endDialogue al cg rs mn = (((v4).toUInt32 % 65536).toInt32, y4_th, y4_al, y4_cg, y2_rs) := by simp only [x_mo_endDialogue, x2, x4]
  rw [hE]
  exact q_ireturn dX11_endDialogue_16 rfl (pk_nc _) (by omega) (by omega) ⟨rfl, smo5, p5⟩
def x_mo_pass (al : Nat → Int32) (cg : Nat) (rs : Int32) (bf : Nat → Int32) (n : Nat) (xa : Int32) : (Int32) × (Int32) × (Nat → Int32) × (Nat) × (Int32) × (Nat → Int32) := (match x_mo_passes (x_cp al 0 10) rs bf n xa with | (v2, y2_al, y2_rs, y2_bf) => (match x_mo_ends y2_al cg y2_rs v2 1 0 0 with | (v4, y4_th, y4_al, y4_cg) => (v4, y4_th, y4_al, y4_cg, y2_rs, y2_bf)))
set_option maxRecDepth 100000 in
set_option maxHeartbeats 8000000 in
theorem e_mo_pass {g : q_G} {h : q_H} {d : Nat} {th : Int32} {al : Nat → Int32} {cg : Nat} {sv : Bool} {rs : Int32} {ac : Int32} {rj : Int32} {ro : Nat → Int32} {ad : Nat → Int32} {bf : Nat → Int32} {ln : Nat → Int32} {lz : Nat} {ip : Nat → Int32} {ty : Nat} {he : Nat} {er : Int32} {ea : Int32} {fa : Int32} {cm : Nat → Int32} {cn : Nat} (smo : z_Mr h 215 th al cg sv rs ac rj ro ad bf ln lz ip ty he er ea fa cm cn)  (n : Nat) (mn : Nat) (xa : Int32) (e0 : al 0 = nI n) (hn : n ≤ 8) (e3 : al 3 = nI mn) (hm : mn ≤ 12)  (hd : 5 ≤ d) : q_Spec g mX11_pass d 0 0 [.ref (215), .int (xa)] h (q_chg (.inl (some (.int (x_mo_pass al cg rs bf n xa).1))) (fun h1 => z_Mr h1 215 ((x_mo_pass al cg rs bf n xa).2.1) ((x_mo_pass al cg rs bf n xa).2.2.1) ((x_mo_pass al cg rs bf n xa).2.2.2.1) sv ((x_mo_pass al cg rs bf n xa).2.2.2.2.1) ac rj ro ad ((x_mo_pass al cg rs bf n xa).2.2.2.2.2) ln lz ip ty he er ea fa cm cn ∧ q_same h h1 215 8)) := by
  have hb_mo_cg := smo.bcg
  have hb_mo_lz := smo.blz
  have hb_mo_ty := smo.bty
  have hb_mo_he := smo.bhe
  have hb_mo_cn := smo.bcn
  have ho_mo_cg := smo.bcg
  have ho_mo_lz := smo.blz
  have ho_mo_ty := smo.bty
  have ho_mo_he := smo.bhe
  have ho_mo_cn := smo.bcn
  have p0 : q_same h h 215 8 := q_same.rfl'
  refine q_enter (by decide +kernel) rfl rfl (Nat.le_of_ble_eq_true rfl) (fun hz => ?_)
  change q_W _ _ _ _ _ _ _ _ _ [.ref (215), .int (xa)] [] _
  refine q_aload_n (by first | assumption | omega | decide | (rw [q_R0e]; omega)) dX11_pass_0 rfl ?_
  refine q_invV (mc' := 0) (ms' := 0) (d' := d - 1) (as := []) dX11_pass_1 kM_X11_begins kL_X11_113 kI_X11_begins kS_X11_begins rfl (kC_X11.1) smo.c0 rfl rfl (Nat.le_of_ble_eq_true rfl) (by omega) (by decide) (by omega) (by omega) (e_mo_begins (d := d - 1) smo (by omega)) (q_kC (fun h1 hB => ?_)) q_xC
  obtain ⟨t1_0, pp1⟩ := hB
  have smo1 : z_Mr h1 215 th (x_cp al 0 10) cg sv rs ac rj ro ad bf ln lz ip ty he er ea fa cm cn := t1_0
  have p1 := p0.trans (pp1.wide (by omega) (by omega))
  have hb_mo_cg := smo1.bcg
  have hb_mo_lz := smo1.blz
  have hb_mo_ty := smo1.bty
  have hb_mo_he := smo1.bhe
  have hb_mo_cn := smo1.bcn
  change q_W _ _ _ _ _ _ _ _ 4 [.ref (215), .int (xa)] [] _
  refine q_aload_n (by first | assumption | omega | decide | (rw [q_R0e]; omega)) dX11_pass_4 rfl ?_
  refine q_aload_n (by first | assumption | omega | decide | (rw [q_R0e]; omega)) dX11_pass_5 rfl ?_
  refine q_iload_n dX11_pass_6 rfl ?_
  rcases x2 : x_mo_passes (x_cp al 0 10) rs bf n xa with ⟨v2, y2_al, y2_rs, y2_bf⟩
  have e9 := e_mo_passes (g := g) (h := h1) (d := d - 1) (smo1.mo ((x_cp_ne (by omega)).trans e0) hn ((x_cp_ne (by omega)).trans e3) hm) xa (by omega)
  rw [x2] at e9
  refine q_invV (mc' := 0) (ms' := 0) (d' := d - 1) (as := [.int (xa)]) dX11_pass_7 kM_X11_passes kL_X11_175 kI_X11_passes kS_X11_passes rfl (kC_X11.1) smo1.c0 rfl rfl (Nat.le_of_ble_eq_true rfl) (by omega) (by decide) (by omega) (by omega) (e9) (q_kC (fun h3 hB => ?_)) q_xC
  obtain ⟨t3_0, pp3⟩ := hB
  have smo3 := t3_0.raw
  have p3 := p1.trans (pp3.wide (by omega) (by omega))
  have hb_mo_cg := smo3.bcg
  have hb_mo_lz := smo3.blz
  have hb_mo_ty := smo3.bty
  have hb_mo_he := smo3.bhe
  have hb_mo_cn := smo3.bcn
  change q_W _ _ _ _ _ _ _ _ 10 [.ref (215), .int (xa)] [.int (v2), .ref (215)] _
  refine q_iconst (v := 1) dX11_pass_10 rfl ?_
  refine q_iconst (v := 0) dX11_pass_11 rfl ?_
  refine q_iconst (v := 0) dX11_pass_12 rfl ?_
  rcases x4 : x_mo_ends y2_al cg y2_rs v2 1 0 0 with ⟨v4, y4_th, y4_al, y4_cg⟩
  have e9 := e_mo_ends (g := g) (h := h3) (d := d - 1) smo3 v2 1 0 0 (by omega)
  rw [x4] at e9
  refine q_invV (mc' := 0) (ms' := 0) (d' := d - 1) (as := [.int (v2), .int (1), .int (0), .int (0)]) dX11_pass_13 kM_X11_ends kL_X11_119 kI_X11_ends kS_X11_ends rfl (kC_X11.1) smo3.c0 rfl rfl (Nat.le_of_ble_eq_true rfl) (by omega) (by decide) (by omega) (by omega) (e9) (q_kC (fun h5 hB => ?_)) q_xC
  obtain ⟨t5_0, pp5⟩ := hB
  have smo5 := t5_0
  have p5 := p3.trans (pp5.wide (by omega) (by omega))
  have hb_mo_cg : y4_cg ≤ 8 := smo5.bcg
  have hb_mo_lz := smo5.blz
  have hb_mo_ty := smo5.bty
  have hb_mo_he := smo5.bhe
  have hb_mo_cn := smo5.bcn
  change q_W _ _ _ _ _ _ _ _ 16 [.ref (215), .int (xa)] [.int (v4)] _
  have hE : x_mo_pass al cg rs bf n xa = (v4, y4_th, y4_al, y4_cg, y2_rs, y2_bf) := by simp only [x_mo_pass, x2, x4]
  rw [hE]
  exact q_ireturn dX11_pass_16 rfl rfl (by omega) (by omega) ⟨rfl, smo5, p5⟩
def x_mo_day (al : Nat → Int32) : (Int32) × (Int32) := (match x_mo_told al 2 with | (v1, y1_th) => (v1, y1_th))
set_option maxRecDepth 100000 in
set_option maxHeartbeats 8000000 in
theorem e_mo_day {g : q_G} {h : q_H} {d : Nat} {th : Int32} {al : Nat → Int32} {cg : Nat} {sv : Bool} {rs : Int32} {ac : Int32} {rj : Int32} {ro : Nat → Int32} {ad : Nat → Int32} {bf : Nat → Int32} {ln : Nat → Int32} {lz : Nat} {ip : Nat → Int32} {ty : Nat} {he : Nat} {er : Int32} {ea : Int32} {fa : Int32} {cm : Nat → Int32} {cn : Nat} {n : Nat} {mn : Nat} (smo : z_Mo h 215 th al cg sv rs ac rj ro ad bf ln lz ip ty he er ea fa cm cn n mn)     (hd : 1 ≤ d) : q_Spec g mX11_day d 0 0 [.ref (215)] h (q_chg (.inl (some (.int (x_mo_day al).1))) (fun h1 => z_Mo h1 215 ((x_mo_day al).2) al cg sv rs ac rj ro ad bf ln lz ip ty he er ea fa cm cn n mn ∧ q_same h h1 215 8)) := by
  have hb_mo_cg := smo.bcg
  have hb_mo_lz := smo.blz
  have hb_mo_ty := smo.bty
  have hb_mo_he := smo.bhe
  have hb_mo_cn := smo.bcn
  have hb_mo_n := smo.bn
  have hb_mo_mn := smo.bmn
  have ho_mo_cg := smo.bcg
  have ho_mo_lz := smo.blz
  have ho_mo_ty := smo.bty
  have ho_mo_he := smo.bhe
  have ho_mo_cn := smo.bcn
  have ho_mo_n := smo.bn
  have ho_mo_mn := smo.bmn
  have p0 : q_same h h 215 8 := q_same.rfl'
  refine q_enter (by decide +kernel) rfl rfl (Nat.le_of_ble_eq_true rfl) (fun hz => ?_)
  change q_W _ _ _ _ _ _ _ _ _ [.ref (215)] [] _
  refine q_aload_n (by first | assumption | omega | decide | (rw [q_R0e]; omega)) dX11_day_0 rfl ?_
  refine q_iconst (v := 2) dX11_day_1 rfl ?_
  rcases x1 : x_mo_told al 2 with ⟨v1, y1_th⟩
  have e9 := e_mo_told (g := g) (h := h) (d := d - 1) smo 2 (by omega) (by omega)
  rw [x1] at e9
  refine q_invV (mc' := 0) (ms' := 0) (d' := d - 1) (as := [.int (2)]) dX11_day_2 kM_X11_told kL_X11_178 kI_X11_told kS_X11_told rfl (kC_X11.1) smo.c0 rfl rfl (Nat.le_of_ble_eq_true rfl) (by omega) (by decide) (by omega) (by omega) (e9) (q_kC (fun h2 hB => ?_)) q_xC
  obtain ⟨t2_0, pp2⟩ := hB
  have smo2 := t2_0
  have p2 := p0.trans (pp2.wide (by omega) (by omega))
  have hb_mo_cg := smo2.bcg
  have hb_mo_lz := smo2.blz
  have hb_mo_ty := smo2.bty
  have hb_mo_he := smo2.bhe
  have hb_mo_cn := smo2.bcn
  have hb_mo_n := smo2.bn
  have hb_mo_mn := smo2.bmn
  change q_W _ _ _ _ _ _ _ _ 5 [.ref (215)] [.int (v1)] _
  have hE : x_mo_day al = (v1, y1_th) := by simp only [x_mo_day, x1]
  rw [hE]
  exact q_ireturn dX11_day_5 rfl rfl (by omega) (by omega) ⟨rfl, smo2, p2⟩
def x_mo_argumentCount (al : Nat → Int32) : (Int32) × (Int32) := (match x_mo_told al 0 with | (v1, y1_th) => (v1, y1_th))
set_option maxRecDepth 100000 in
set_option maxHeartbeats 8000000 in
theorem e_mo_argumentCount {g : q_G} {h : q_H} {d : Nat} {th : Int32} {al : Nat → Int32} {cg : Nat} {sv : Bool} {rs : Int32} {ac : Int32} {rj : Int32} {ro : Nat → Int32} {ad : Nat → Int32} {bf : Nat → Int32} {ln : Nat → Int32} {lz : Nat} {ip : Nat → Int32} {ty : Nat} {he : Nat} {er : Int32} {ea : Int32} {fa : Int32} {cm : Nat → Int32} {cn : Nat} {n : Nat} {mn : Nat} (smo : z_Mo h 215 th al cg sv rs ac rj ro ad bf ln lz ip ty he er ea fa cm cn n mn)     (hd : 1 ≤ d) : q_Spec g mX11_argumentCount d 0 0 [.ref (215)] h (q_chg (.inl (some (.int (x_mo_argumentCount al).1))) (fun h1 => z_Mo h1 215 ((x_mo_argumentCount al).2) al cg sv rs ac rj ro ad bf ln lz ip ty he er ea fa cm cn n mn ∧ q_same h h1 215 8)) := by
  have hb_mo_cg := smo.bcg
  have hb_mo_lz := smo.blz
  have hb_mo_ty := smo.bty
  have hb_mo_he := smo.bhe
  have hb_mo_cn := smo.bcn
  have hb_mo_n := smo.bn
  have hb_mo_mn := smo.bmn
  have ho_mo_cg := smo.bcg
  have ho_mo_lz := smo.blz
  have ho_mo_ty := smo.bty
  have ho_mo_he := smo.bhe
  have ho_mo_cn := smo.bcn
  have ho_mo_n := smo.bn
  have ho_mo_mn := smo.bmn
  have p0 : q_same h h 215 8 := q_same.rfl'
  refine q_enter (by decide +kernel) rfl rfl (Nat.le_of_ble_eq_true rfl) (fun hz => ?_)
  change q_W _ _ _ _ _ _ _ _ _ [.ref (215)] [] _
  refine q_aload_n (by first | assumption | omega | decide | (rw [q_R0e]; omega)) dX11_argumentCount_0 rfl ?_
  refine q_iconst (v := 0) dX11_argumentCount_1 rfl ?_
  rcases x1 : x_mo_told al 0 with ⟨v1, y1_th⟩
  have e9 := e_mo_told (g := g) (h := h) (d := d - 1) smo 0 (by omega) (by omega)
  rw [x1] at e9
  refine q_invV (mc' := 0) (ms' := 0) (d' := d - 1) (as := [.int (0)]) dX11_argumentCount_2 kM_X11_told kL_X11_178 kI_X11_told kS_X11_told rfl (kC_X11.1) smo.c0 rfl rfl (Nat.le_of_ble_eq_true rfl) (by omega) (by decide) (by omega) (by omega) (e9) (q_kC (fun h2 hB => ?_)) q_xC
  obtain ⟨t2_0, pp2⟩ := hB
  have smo2 := t2_0
  have p2 := p0.trans (pp2.wide (by omega) (by omega))
  have hb_mo_cg := smo2.bcg
  have hb_mo_lz := smo2.blz
  have hb_mo_ty := smo2.bty
  have hb_mo_he := smo2.bhe
  have hb_mo_cn := smo2.bcn
  have hb_mo_n := smo2.bn
  have hb_mo_mn := smo2.bmn
  change q_W _ _ _ _ _ _ _ _ 5 [.ref (215)] [.int (v1)] _
  have hE : x_mo_argumentCount al = (v1, y1_th) := by simp only [x_mo_argumentCount, x1]
  rw [hE]
  exact q_ireturn dX11_argumentCount_5 rfl rfl (by omega) (by omega) ⟨rfl, smo2, p2⟩
def x_mo_dialogueTotal (al : Nat → Int32) : (Int32) × (Int32) := (match x_mo_told al 4 with | (v1, y1_th) => (v1, y1_th))
set_option maxRecDepth 100000 in
set_option maxHeartbeats 8000000 in
theorem e_mo_dialogueTotal {g : q_G} {h : q_H} {d : Nat} {th : Int32} {al : Nat → Int32} {cg : Nat} {sv : Bool} {rs : Int32} {ac : Int32} {rj : Int32} {ro : Nat → Int32} {ad : Nat → Int32} {bf : Nat → Int32} {ln : Nat → Int32} {lz : Nat} {ip : Nat → Int32} {ty : Nat} {he : Nat} {er : Int32} {ea : Int32} {fa : Int32} {cm : Nat → Int32} {cn : Nat} {n : Nat} {mn : Nat} (smo : z_Mo h 215 th al cg sv rs ac rj ro ad bf ln lz ip ty he er ea fa cm cn n mn)     (hd : 1 ≤ d) : q_Spec g mX11_dialogueTotal d 0 0 [.ref (215)] h (q_chg (.inl (some (.int (x_mo_dialogueTotal al).1))) (fun h1 => z_Mo h1 215 ((x_mo_dialogueTotal al).2) al cg sv rs ac rj ro ad bf ln lz ip ty he er ea fa cm cn n mn ∧ q_same h h1 215 8)) := by
  have hb_mo_cg := smo.bcg
  have hb_mo_lz := smo.blz
  have hb_mo_ty := smo.bty
  have hb_mo_he := smo.bhe
  have hb_mo_cn := smo.bcn
  have hb_mo_n := smo.bn
  have hb_mo_mn := smo.bmn
  have ho_mo_cg := smo.bcg
  have ho_mo_lz := smo.blz
  have ho_mo_ty := smo.bty
  have ho_mo_he := smo.bhe
  have ho_mo_cn := smo.bcn
  have ho_mo_n := smo.bn
  have ho_mo_mn := smo.bmn
  have p0 : q_same h h 215 8 := q_same.rfl'
  refine q_enter (by decide +kernel) rfl rfl (Nat.le_of_ble_eq_true rfl) (fun hz => ?_)
  change q_W _ _ _ _ _ _ _ _ _ [.ref (215)] [] _
  refine q_aload_n (by first | assumption | omega | decide | (rw [q_R0e]; omega)) dX11_dialogueTotal_0 rfl ?_
  refine q_iconst (v := 4) dX11_dialogueTotal_1 rfl ?_
  rcases x1 : x_mo_told al 4 with ⟨v1, y1_th⟩
  have e9 := e_mo_told (g := g) (h := h) (d := d - 1) smo 4 (by omega) (by omega)
  rw [x1] at e9
  refine q_invV (mc' := 0) (ms' := 0) (d' := d - 1) (as := [.int (4)]) dX11_dialogueTotal_2 kM_X11_told kL_X11_178 kI_X11_told kS_X11_told rfl (kC_X11.1) smo.c0 rfl rfl (Nat.le_of_ble_eq_true rfl) (by omega) (by decide) (by omega) (by omega) (e9) (q_kC (fun h2 hB => ?_)) q_xC
  obtain ⟨t2_0, pp2⟩ := hB
  have smo2 := t2_0
  have p2 := p0.trans (pp2.wide (by omega) (by omega))
  have hb_mo_cg := smo2.bcg
  have hb_mo_lz := smo2.blz
  have hb_mo_ty := smo2.bty
  have hb_mo_he := smo2.bhe
  have hb_mo_cn := smo2.bcn
  have hb_mo_n := smo2.bn
  have hb_mo_mn := smo2.bmn
  change q_W _ _ _ _ _ _ _ _ 5 [.ref (215)] [.int (v1)] _
  have hE : x_mo_dialogueTotal al = (v1, y1_th) := by simp only [x_mo_dialogueTotal, x1]
  rw [hE]
  exact q_ireturn dX11_dialogueTotal_5 rfl rfl (by omega) (by omega) ⟨rfl, smo2, p2⟩
def x_mo_proponentWins (al : Nat → Int32) : (Int32) × (Int32) := (match x_mo_told al 5 with | (v1, y1_th) => (v1, y1_th))
set_option maxRecDepth 100000 in
set_option maxHeartbeats 8000000 in
theorem e_mo_proponentWins {g : q_G} {h : q_H} {d : Nat} {th : Int32} {al : Nat → Int32} {cg : Nat} {sv : Bool} {rs : Int32} {ac : Int32} {rj : Int32} {ro : Nat → Int32} {ad : Nat → Int32} {bf : Nat → Int32} {ln : Nat → Int32} {lz : Nat} {ip : Nat → Int32} {ty : Nat} {he : Nat} {er : Int32} {ea : Int32} {fa : Int32} {cm : Nat → Int32} {cn : Nat} {n : Nat} {mn : Nat} (smo : z_Mo h 215 th al cg sv rs ac rj ro ad bf ln lz ip ty he er ea fa cm cn n mn)     (hd : 1 ≤ d) : q_Spec g mX11_proponentWins d 0 0 [.ref (215)] h (q_chg (.inl (some (.int (x_mo_proponentWins al).1))) (fun h1 => z_Mo h1 215 ((x_mo_proponentWins al).2) al cg sv rs ac rj ro ad bf ln lz ip ty he er ea fa cm cn n mn ∧ q_same h h1 215 8)) := by
  have hb_mo_cg := smo.bcg
  have hb_mo_lz := smo.blz
  have hb_mo_ty := smo.bty
  have hb_mo_he := smo.bhe
  have hb_mo_cn := smo.bcn
  have hb_mo_n := smo.bn
  have hb_mo_mn := smo.bmn
  have ho_mo_cg := smo.bcg
  have ho_mo_lz := smo.blz
  have ho_mo_ty := smo.bty
  have ho_mo_he := smo.bhe
  have ho_mo_cn := smo.bcn
  have ho_mo_n := smo.bn
  have ho_mo_mn := smo.bmn
  have p0 : q_same h h 215 8 := q_same.rfl'
  refine q_enter (by decide +kernel) rfl rfl (Nat.le_of_ble_eq_true rfl) (fun hz => ?_)
  change q_W _ _ _ _ _ _ _ _ _ [.ref (215)] [] _
  refine q_aload_n (by first | assumption | omega | decide | (rw [q_R0e]; omega)) dX11_proponentWins_0 rfl ?_
  refine q_iconst (v := 5) dX11_proponentWins_1 rfl ?_
  rcases x1 : x_mo_told al 5 with ⟨v1, y1_th⟩
  have e9 := e_mo_told (g := g) (h := h) (d := d - 1) smo 5 (by omega) (by omega)
  rw [x1] at e9
  refine q_invV (mc' := 0) (ms' := 0) (d' := d - 1) (as := [.int (5)]) dX11_proponentWins_2 kM_X11_told kL_X11_178 kI_X11_told kS_X11_told rfl (kC_X11.1) smo.c0 rfl rfl (Nat.le_of_ble_eq_true rfl) (by omega) (by decide) (by omega) (by omega) (e9) (q_kC (fun h2 hB => ?_)) q_xC
  obtain ⟨t2_0, pp2⟩ := hB
  have smo2 := t2_0
  have p2 := p0.trans (pp2.wide (by omega) (by omega))
  have hb_mo_cg := smo2.bcg
  have hb_mo_lz := smo2.blz
  have hb_mo_ty := smo2.bty
  have hb_mo_he := smo2.bhe
  have hb_mo_cn := smo2.bcn
  have hb_mo_n := smo2.bn
  have hb_mo_mn := smo2.bmn
  change q_W _ _ _ _ _ _ _ _ 5 [.ref (215)] [.int (v1)] _
  have hE : x_mo_proponentWins al = (v1, y1_th) := by simp only [x_mo_proponentWins, x1]
  rw [hE]
  exact q_ireturn dX11_proponentWins_5 rfl rfl (by omega) (by omega) ⟨rfl, smo2, p2⟩
def x_mo_brokenOffTotal (al : Nat → Int32) : (Int32) × (Int32) := (match x_mo_told al 6 with | (v1, y1_th) => (v1, y1_th))
set_option maxRecDepth 100000 in
set_option maxHeartbeats 8000000 in
theorem e_mo_brokenOffTotal {g : q_G} {h : q_H} {d : Nat} {th : Int32} {al : Nat → Int32} {cg : Nat} {sv : Bool} {rs : Int32} {ac : Int32} {rj : Int32} {ro : Nat → Int32} {ad : Nat → Int32} {bf : Nat → Int32} {ln : Nat → Int32} {lz : Nat} {ip : Nat → Int32} {ty : Nat} {he : Nat} {er : Int32} {ea : Int32} {fa : Int32} {cm : Nat → Int32} {cn : Nat} {n : Nat} {mn : Nat} (smo : z_Mo h 215 th al cg sv rs ac rj ro ad bf ln lz ip ty he er ea fa cm cn n mn)     (hd : 1 ≤ d) : q_Spec g mX11_brokenOffTotal d 0 0 [.ref (215)] h (q_chg (.inl (some (.int (x_mo_brokenOffTotal al).1))) (fun h1 => z_Mo h1 215 ((x_mo_brokenOffTotal al).2) al cg sv rs ac rj ro ad bf ln lz ip ty he er ea fa cm cn n mn ∧ q_same h h1 215 8)) := by
  have hb_mo_cg := smo.bcg
  have hb_mo_lz := smo.blz
  have hb_mo_ty := smo.bty
  have hb_mo_he := smo.bhe
  have hb_mo_cn := smo.bcn
  have hb_mo_n := smo.bn
  have hb_mo_mn := smo.bmn
  have ho_mo_cg := smo.bcg
  have ho_mo_lz := smo.blz
  have ho_mo_ty := smo.bty
  have ho_mo_he := smo.bhe
  have ho_mo_cn := smo.bcn
  have ho_mo_n := smo.bn
  have ho_mo_mn := smo.bmn
  have p0 : q_same h h 215 8 := q_same.rfl'
  refine q_enter (by decide +kernel) rfl rfl (Nat.le_of_ble_eq_true rfl) (fun hz => ?_)
  change q_W _ _ _ _ _ _ _ _ _ [.ref (215)] [] _
  refine q_aload_n (by first | assumption | omega | decide | (rw [q_R0e]; omega)) dX11_brokenOffTotal_0 rfl ?_
  refine q_bipush (v := 6) dX11_brokenOffTotal_1 rfl ?_
  rcases x1 : x_mo_told al 6 with ⟨v1, y1_th⟩
  have e9 := e_mo_told (g := g) (h := h) (d := d - 1) smo 6 (by omega) (by omega)
  rw [x1] at e9
  refine q_invV (mc' := 0) (ms' := 0) (d' := d - 1) (as := [.int (6)]) dX11_brokenOffTotal_3 kM_X11_told kL_X11_178 kI_X11_told kS_X11_told rfl (kC_X11.1) smo.c0 rfl rfl (Nat.le_of_ble_eq_true rfl) (by omega) (by decide) (by omega) (by omega) (e9) (q_kC (fun h2 hB => ?_)) q_xC
  obtain ⟨t2_0, pp2⟩ := hB
  have smo2 := t2_0
  have p2 := p0.trans (pp2.wide (by omega) (by omega))
  have hb_mo_cg := smo2.bcg
  have hb_mo_lz := smo2.blz
  have hb_mo_ty := smo2.bty
  have hb_mo_he := smo2.bhe
  have hb_mo_cn := smo2.bcn
  have hb_mo_n := smo2.bn
  have hb_mo_mn := smo2.bmn
  change q_W _ _ _ _ _ _ _ _ 6 [.ref (215)] [.int (v1)] _
  have hE : x_mo_brokenOffTotal al = (v1, y1_th) := by simp only [x_mo_brokenOffTotal, x1]
  rw [hE]
  exact q_ireturn dX11_brokenOffTotal_6 rfl rfl (by omega) (by omega) ⟨rfl, smo2, p2⟩
def x_mo_moveCount (al : Nat → Int32) : (Int32) × (Int32) := (match x_mo_told al 3 with | (v1, y1_th) => (v1, y1_th))
set_option maxRecDepth 100000 in
set_option maxHeartbeats 8000000 in
theorem e_mo_moveCount {g : q_G} {h : q_H} {d : Nat} {th : Int32} {al : Nat → Int32} {cg : Nat} {sv : Bool} {rs : Int32} {ac : Int32} {rj : Int32} {ro : Nat → Int32} {ad : Nat → Int32} {bf : Nat → Int32} {ln : Nat → Int32} {lz : Nat} {ip : Nat → Int32} {ty : Nat} {he : Nat} {er : Int32} {ea : Int32} {fa : Int32} {cm : Nat → Int32} {cn : Nat} {n : Nat} {mn : Nat} (smo : z_Mo h 215 th al cg sv rs ac rj ro ad bf ln lz ip ty he er ea fa cm cn n mn)     (hd : 1 ≤ d) : q_Spec g mX11_moveCount d 0 0 [.ref (215)] h (q_chg (.inl (some (.int (x_mo_moveCount al).1))) (fun h1 => z_Mo h1 215 ((x_mo_moveCount al).2) al cg sv rs ac rj ro ad bf ln lz ip ty he er ea fa cm cn n mn ∧ q_same h h1 215 8)) := by
  have hb_mo_cg := smo.bcg
  have hb_mo_lz := smo.blz
  have hb_mo_ty := smo.bty
  have hb_mo_he := smo.bhe
  have hb_mo_cn := smo.bcn
  have hb_mo_n := smo.bn
  have hb_mo_mn := smo.bmn
  have ho_mo_cg := smo.bcg
  have ho_mo_lz := smo.blz
  have ho_mo_ty := smo.bty
  have ho_mo_he := smo.bhe
  have ho_mo_cn := smo.bcn
  have ho_mo_n := smo.bn
  have ho_mo_mn := smo.bmn
  have p0 : q_same h h 215 8 := q_same.rfl'
  refine q_enter (by decide +kernel) rfl rfl (Nat.le_of_ble_eq_true rfl) (fun hz => ?_)
  change q_W _ _ _ _ _ _ _ _ _ [.ref (215)] [] _
  refine q_aload_n (by first | assumption | omega | decide | (rw [q_R0e]; omega)) dX11_moveCount_0 rfl ?_
  refine q_iconst (v := 3) dX11_moveCount_1 rfl ?_
  rcases x1 : x_mo_told al 3 with ⟨v1, y1_th⟩
  have e9 := e_mo_told (g := g) (h := h) (d := d - 1) smo 3 (by omega) (by omega)
  rw [x1] at e9
  refine q_invV (mc' := 0) (ms' := 0) (d' := d - 1) (as := [.int (3)]) dX11_moveCount_2 kM_X11_told kL_X11_178 kI_X11_told kS_X11_told rfl (kC_X11.1) smo.c0 rfl rfl (Nat.le_of_ble_eq_true rfl) (by omega) (by decide) (by omega) (by omega) (e9) (q_kC (fun h2 hB => ?_)) q_xC
  obtain ⟨t2_0, pp2⟩ := hB
  have smo2 := t2_0
  have p2 := p0.trans (pp2.wide (by omega) (by omega))
  have hb_mo_cg := smo2.bcg
  have hb_mo_lz := smo2.blz
  have hb_mo_ty := smo2.bty
  have hb_mo_he := smo2.bhe
  have hb_mo_cn := smo2.bcn
  have hb_mo_n := smo2.bn
  have hb_mo_mn := smo2.bmn
  change q_W _ _ _ _ _ _ _ _ 5 [.ref (215)] [.int (v1)] _
  have hE : x_mo_moveCount al = (v1, y1_th) := by simp only [x_mo_moveCount, x1]
  rw [hE]
  exact q_ireturn dX11_moveCount_5 rfl rfl (by omega) (by omega) ⟨rfl, smo2, p2⟩
def x_mo_isDialogueHeld (al : Nat → Int32) : (Bool) × (Int32) := (match x_mo_told al 3 with | (v1, y1_th) => (if (v1) ≤ (0) then (false, y1_th) else (true, y1_th)))
set_option maxRecDepth 100000 in
set_option maxHeartbeats 8000000 in
theorem e_mo_isDialogueHeld {g : q_G} {h : q_H} {d : Nat} {th : Int32} {al : Nat → Int32} {cg : Nat} {sv : Bool} {rs : Int32} {ac : Int32} {rj : Int32} {ro : Nat → Int32} {ad : Nat → Int32} {bf : Nat → Int32} {ln : Nat → Int32} {lz : Nat} {ip : Nat → Int32} {ty : Nat} {he : Nat} {er : Int32} {ea : Int32} {fa : Int32} {cm : Nat → Int32} {cn : Nat} {n : Nat} {mn : Nat} (smo : z_Mo h 215 th al cg sv rs ac rj ro ad bf ln lz ip ty he er ea fa cm cn n mn)     (hd : 1 ≤ d) : q_Spec g mX11_isDialogueHeld d 0 0 [.ref (215)] h (q_chg (.inl (some (.int (z_b (x_mo_isDialogueHeld al).1)))) (fun h1 => z_Mo h1 215 ((x_mo_isDialogueHeld al).2) al cg sv rs ac rj ro ad bf ln lz ip ty he er ea fa cm cn n mn ∧ q_same h h1 215 8)) := by
  have hb_mo_cg := smo.bcg
  have hb_mo_lz := smo.blz
  have hb_mo_ty := smo.bty
  have hb_mo_he := smo.bhe
  have hb_mo_cn := smo.bcn
  have hb_mo_n := smo.bn
  have hb_mo_mn := smo.bmn
  have ho_mo_cg := smo.bcg
  have ho_mo_lz := smo.blz
  have ho_mo_ty := smo.bty
  have ho_mo_he := smo.bhe
  have ho_mo_cn := smo.bcn
  have ho_mo_n := smo.bn
  have ho_mo_mn := smo.bmn
  have p0 : q_same h h 215 8 := q_same.rfl'
  refine q_enter (by decide +kernel) rfl rfl (Nat.le_of_ble_eq_true rfl) (fun hz => ?_)
  change q_W _ _ _ _ _ _ _ _ _ [.ref (215)] [] _
  refine q_aload_n (by first | assumption | omega | decide | (rw [q_R0e]; omega)) dX11_isDialogueHeld_0 rfl ?_
  refine q_iconst (v := 3) dX11_isDialogueHeld_1 rfl ?_
  rcases x1 : x_mo_told al 3 with ⟨v1, y1_th⟩
  have e9 := e_mo_told (g := g) (h := h) (d := d - 1) smo 3 (by omega) (by omega)
  rw [x1] at e9
  refine q_invV (mc' := 0) (ms' := 0) (d' := d - 1) (as := [.int (3)]) dX11_isDialogueHeld_2 kM_X11_told kL_X11_178 kI_X11_told kS_X11_told rfl (kC_X11.1) smo.c0 rfl rfl (Nat.le_of_ble_eq_true rfl) (by omega) (by decide) (by omega) (by omega) (e9) (q_kC (fun h2 hB => ?_)) q_xC
  obtain ⟨t2_0, pp2⟩ := hB
  have smo2 := t2_0
  have p2 := p0.trans (pp2.wide (by omega) (by omega))
  have hb_mo_cg := smo2.bcg
  have hb_mo_lz := smo2.blz
  have hb_mo_ty := smo2.bty
  have hb_mo_he := smo2.bhe
  have hb_mo_cn := smo2.bcn
  have hb_mo_n := smo2.bn
  have hb_mo_mn := smo2.bmn
  change q_W _ _ _ _ _ _ _ _ 5 [.ref (215)] [.int (v1)] _
  refine q_if_le 12 dX11_isDialogueHeld_5 (by decide) (fun b5 => ?_) (fun b5 => ?_)
  · refine q_iconst (v := 0) dX11_isDialogueHeld_12 rfl ?_
    have hE : x_mo_isDialogueHeld al = (false, y1_th) := by simp only [x_mo_isDialogueHeld, x1, if_pos b5]
    rw [hE]
    exact q_ireturn dX11_isDialogueHeld_13 rfl rfl (by omega) (by omega) ⟨rfl, smo2, p2⟩
  · refine q_iconst (v := 1) dX11_isDialogueHeld_8 rfl ?_
    refine q_goto 13 dX11_isDialogueHeld_9 (by decide) ?_
    have hE : x_mo_isDialogueHeld al = (true, y1_th) := by simp only [x_mo_isDialogueHeld, x1, if_neg b5]
    rw [hE]
    exact q_ireturn dX11_isDialogueHeld_13 rfl rfl (by omega) (by omega) ⟨rfl, smo2, p2⟩
def x_mo_attackCount (al : Nat → Int32) (n : Nat) : (Int32) × (Int32) := (x_mo_attacks al n, 0)
set_option maxRecDepth 100000 in
set_option maxHeartbeats 8000000 in
theorem e_mo_attackCount {g : q_G} {h : q_H} {d : Nat} {th : Int32} {al : Nat → Int32} {cg : Nat} {sv : Bool} {rs : Int32} {ac : Int32} {rj : Int32} {ro : Nat → Int32} {ad : Nat → Int32} {bf : Nat → Int32} {ln : Nat → Int32} {lz : Nat} {ip : Nat → Int32} {ty : Nat} {he : Nat} {er : Int32} {ea : Int32} {fa : Int32} {cm : Nat → Int32} {cn : Nat} {n : Nat} {mn : Nat} (smo : z_Mo h 215 th al cg sv rs ac rj ro ad bf ln lz ip ty he er ea fa cm cn n mn)     (hd : 2 ≤ d) : q_Spec g mX11_attackCount d 0 0 [.ref (215)] h (q_chg (.inl (some (.int (x_mo_attackCount al n).1))) (fun h1 => z_Mo h1 215 ((x_mo_attackCount al n).2) al cg sv rs ac rj ro ad bf ln lz ip ty he er ea fa cm cn n mn ∧ q_same h h1 215 8)) := by
  have hb_mo_cg := smo.bcg
  have hb_mo_lz := smo.blz
  have hb_mo_ty := smo.bty
  have hb_mo_he := smo.bhe
  have hb_mo_cn := smo.bcn
  have hb_mo_n := smo.bn
  have hb_mo_mn := smo.bmn
  have ho_mo_cg := smo.bcg
  have ho_mo_lz := smo.blz
  have ho_mo_ty := smo.bty
  have ho_mo_he := smo.bhe
  have ho_mo_cn := smo.bcn
  have ho_mo_n := smo.bn
  have ho_mo_mn := smo.bmn
  have p0 : q_same h h 215 8 := q_same.rfl'
  refine q_enter (by decide +kernel) rfl rfl (Nat.le_of_ble_eq_true rfl) (fun hz => ?_)
  change q_W _ _ _ _ _ _ _ _ _ [.ref (215)] [] _
  refine q_aload_n (by first | assumption | omega | decide | (rw [q_R0e]; omega)) dX11_attackCount_0 rfl ?_
  refine q_iconst (v := 0) dX11_attackCount_1 rfl ?_
  refine q_putf (k := 0) kC_X11 kL_X11_40 rfl (by decide) rfl dX11_attackCount_2 smo.c0 (Nat.le_of_ble_eq_true rfl) ⟨rfl, rfl⟩ rfl ?_
  refine z_genW (B := fun H => z_Mo H 215 0 al cg sv rs ac rj ro ad bf ln lz ip ty he er ea fa cm cn n mn ∧ q_same h H 215 8) ⟨z_Mo.put0 smo (cg' := cg) (sv' := sv) (lz' := lz) (ty' := ty) (he' := he) (cn' := cn) (hbcg := by first | omega | (split <;> omega)) (hblz := by first | omega | (split <;> omega)) (hbty := by first | omega | (split <;> omega)) (hbhe := by first | omega | (split <;> omega)) (hbcn := by first | omega | (split <;> omega)), p0.trans (q_same.set (by omega) (by omega))⟩ (fun h1 hB => ?_)
  obtain ⟨smo1, p1⟩ := hB
  have hb_mo_cg := smo1.bcg
  have hb_mo_lz := smo1.blz
  have hb_mo_ty := smo1.bty
  have hb_mo_he := smo1.bhe
  have hb_mo_cn := smo1.bcn
  have hb_mo_n := smo1.bn
  have hb_mo_mn := smo1.bmn
  refine q_aload_n (by first | assumption | omega | decide | (rw [q_R0e]; omega)) dX11_attackCount_5 rfl ?_
  refine q_invV (mc' := 0) (ms' := 0) (d' := d - 1) (as := []) dX11_attackCount_6 kM_X11_attacks kL_X11_126 kI_X11_attacks kS_X11_attacks rfl (kC_X11.1) smo1.c0 rfl rfl (Nat.le_of_ble_eq_true rfl) (by omega) (by decide) (by omega) (by omega) (e_mo_attacks (d := d - 1) smo1 (by omega)) (q_kR ?_) q_xR
  change q_W _ _ _ _ _ _ _ _ 9 [.ref (215)] [.int (x_mo_attacks al n)] _
  have hE : x_mo_attackCount al n = (x_mo_attacks al n, 0) := by simp only [x_mo_attackCount]
  rw [hE]
  exact q_ireturn dX11_attackCount_9 rfl rfl (by omega) (by omega) ⟨rfl, smo1, p1⟩
def x_mo_successfulCount_9 (al : Nat → Int32) (n : Nat) : Nat → Nat → (Int32) → (Int32)
  | 0, _, c9_1 => c9_1
  | r + 1, k, c9_1 => x_mo_successfulCount_9 al n r (k + 1) (c9_1 + (x_mo_size (x_mo_attackers al n k)))
set_option maxRecDepth 100000 in
set_option maxHeartbeats 8000000 in
theorem l_mo_successfulCount_9 {g : q_G} {h h1 : q_H} {d mc ms kc ks : Nat} {Q : q_O → q_H → Prop} {al : Nat → Int32} {cg : Nat} {sv : Bool} {rs : Int32} {ac : Int32} {rj : Int32} {ro : Nat → Int32} {ad : Nat → Int32} {bf : Nat → Int32} {ln : Nat → Int32} {lz : Nat} {ip : Nat → Int32} {ty : Nat} {he : Nat} {er : Int32} {ea : Int32} {fa : Int32} {cm : Nat → Int32} {cn : Nat} {n : Nat} {mn : Nat} (smo1 : z_Mo h1 215 0 al cg sv rs ac rj ro ad bf ln lz ip ty he er ea fa cm cn n mn) (p1 : q_same h h1 215 8)  (ho_mo_cg : cg ≤ 8) (ho_mo_lz : lz ≤ 160) (ho_mo_ty : ty ≤ 60) (ho_mo_he : he ≤ 60) (ho_mo_cn : cn ≤ 61) (ho_mo_n : n ≤ 8) (ho_mo_mn : mn ≤ 12)  (hd : 4 ≤ d) (hkc : kc + 0 ≤ mc) (hks : ks + 0 ≤ ms) : ∀ (r k : Nat) (c9_1 : Int32) (hk_9 : k + r = n) (K : ∀ (r9_0 : Int32), x_mo_successfulCount_9 al n r k c9_1 = r9_0 → q_W g mX11_successfulCount d mc ms Q kc ks 36 [q_u, .int (r9_0), q_u] [] h1), q_W g mX11_successfulCount d mc ms Q kc ks 9 [.ref (215), .int (c9_1), .int (nI (k))] [] h1 := by
  intro r
  induction r with
  | zero =>
    intro k c9_1  hk_9 K
    have hb_mo_cg := smo1.bcg
    have hb_mo_lz := smo1.blz
    have hb_mo_ty := smo1.bty
    have hb_mo_he := smo1.bhe
    have hb_mo_cn := smo1.bcn
    have hb_mo_n := smo1.bn
    have hb_mo_mn := smo1.bmn
    refine q_iload_n dX11_successfulCount_9 rfl ?_
    refine q_aload_n (by first | assumption | omega | decide | (rw [q_R0e]; omega)) dX11_successfulCount_10 rfl ?_
    refine q_getf (k := 1) (v := .ref (216)) kC_X11 kL_X11_9 rfl (by decide) dX11_successfulCount_11 smo1.c0 rfl ?_
    refine q_iconst (v := 0) dX11_successfulCount_14 rfl ?_
    refine q_ialdN (j := 0) (f := al) dX11_successfulCount_15 smo1.c1 (by omega) (by decide) ?_
    rw [smo1.en]
    change q_W _ _ _ _ _ _ _ _ _ _ [.int (nI (n)), .int (nI (k))] _
    refine q_icmp_ge 36 dX11_successfulCount_16 (by decide) (fun b16 => ?_) (fun b16 => ?_)
    · have b16 := (nI_leI (a := n) (b := k) (by omega) (by omega)).mp b16
      refine q_forget 0 ?_
      refine q_forget 2 ?_
      change q_W _ _ _ _ _ _ _ _ _ [q_u, .int (c9_1), q_u] [] _
      exact K c9_1 (by simp only [x_mo_successfulCount_9])
    · have b16 : ¬ (n ≤ k) := fun q => b16 ((nI_leI (a := n) (b := k) (by omega) (by omega)).mpr q)
      exact absurd b16 (by omega)
  | succ r ih =>
    intro k c9_1  hk_9 K
    have hb_mo_cg := smo1.bcg
    have hb_mo_lz := smo1.blz
    have hb_mo_ty := smo1.bty
    have hb_mo_he := smo1.bhe
    have hb_mo_cn := smo1.bcn
    have hb_mo_n := smo1.bn
    have hb_mo_mn := smo1.bmn
    refine q_iload_n dX11_successfulCount_9 rfl ?_
    refine q_aload_n (by first | assumption | omega | decide | (rw [q_R0e]; omega)) dX11_successfulCount_10 rfl ?_
    refine q_getf (k := 1) (v := .ref (216)) kC_X11 kL_X11_9 rfl (by decide) dX11_successfulCount_11 smo1.c0 rfl ?_
    refine q_iconst (v := 0) dX11_successfulCount_14 rfl ?_
    refine q_ialdN (j := 0) (f := al) dX11_successfulCount_15 smo1.c1 (by omega) (by decide) ?_
    rw [smo1.en]
    change q_W _ _ _ _ _ _ _ _ _ _ [.int (nI (n)), .int (nI (k))] _
    refine q_icmp_ge 36 dX11_successfulCount_16 (by decide) (fun b16 => ?_) (fun b16 => ?_)
    · have b16 := (nI_leI (a := n) (b := k) (by omega) (by omega)).mp b16
      exact absurd b16 (by omega)
    · have b16 : ¬ (n ≤ k) := fun q => b16 ((nI_leI (a := n) (b := k) (by omega) (by omega)).mpr q)
      refine q_iload_n dX11_successfulCount_19 rfl ?_
      refine q_aload_n (by first | assumption | omega | decide | (rw [q_R0e]; omega)) dX11_successfulCount_20 rfl ?_
      refine q_iload_n dX11_successfulCount_21 rfl ?_
      refine q_invV (mc' := 0) (ms' := 0) (d' := d - 1) (as := [.int (nI (k))]) dX11_successfulCount_22 kM_X11_attackers kL_X11_80 kI_X11_attackers kS_X11_attackers rfl (kC_X11.1) smo1.c0 rfl rfl (Nat.le_of_ble_eq_true rfl) (by omega) (by decide) (by omega) (by omega) (e_mo_attackers (d := d - 1) smo1 k (by omega) (by omega)) (q_kR ?_) q_xR
      change q_W _ _ _ _ _ _ _ _ 25 [.ref (215), .int (c9_1), .int (nI (k))] [.int (x_mo_attackers al n k), .int (c9_1)] _
      refine q_invS (mc' := 0) (ms' := 0) (d' := d - 1) (as := [.int (x_mo_attackers al n k)]) dX11_successfulCount_25 kM_X11_size kL_X11_68 kT_X11_size rfl rfl rfl (Nat.le_of_ble_eq_true rfl) (by omega) (by decide) (by omega) (by omega) (e_mo_size (d := d - 1) (x_mo_attackers al n k) (by omega)) (q_kR ?_) q_xR
      change q_W _ _ _ _ _ _ _ _ 28 [.ref (215), .int (c9_1), .int (nI (k))] [.int (x_mo_size (x_mo_attackers al n k)), .int (c9_1)] _
      refine q_iadd dX11_successfulCount_28 ?_
      refine q_istore_n dX11_successfulCount_29 (by decide) rfl ?_
      change q_W _ _ _ _ _ _ _ _ _ [.ref (215), .int (c9_1 + (x_mo_size (x_mo_attackers al n k))), .int (nI (k))] [] _
      refine q_iinc (x := nI (k)) (v := nI (k + 1)) dX11_successfulCount_30 rfl (nI_add _ 1) rfl ?_
      change q_W _ _ _ _ _ _ _ _ _ [.ref (215), .int (c9_1 + (x_mo_size (x_mo_attackers al n k))), .int (nI (k + 1))] [] _
      refine q_goto 9 dX11_successfulCount_33 (by decide) ?_
      change q_W _ _ _ _ _ _ _ _ _ [.ref (215), .int (c9_1 + (x_mo_size (x_mo_attackers al n k))), .int (nI (k + 1))] [] _
      exact ih (k + 1) (c9_1 + (x_mo_size (x_mo_attackers al n k))) (by omega) (fun r9_0 e9 => K r9_0 (by simp only [x_mo_successfulCount_9]; exact e9))
def x_mo_successfulCount (al : Nat → Int32) (n : Nat) : (Int32) × (Int32) := (let a2_0 := x_mo_successfulCount_9 al n n 0 0; (a2_0, 0))
set_option maxRecDepth 100000 in
set_option maxHeartbeats 8000000 in
theorem e_mo_successfulCount {g : q_G} {h : q_H} {d : Nat} {th : Int32} {al : Nat → Int32} {cg : Nat} {sv : Bool} {rs : Int32} {ac : Int32} {rj : Int32} {ro : Nat → Int32} {ad : Nat → Int32} {bf : Nat → Int32} {ln : Nat → Int32} {lz : Nat} {ip : Nat → Int32} {ty : Nat} {he : Nat} {er : Int32} {ea : Int32} {fa : Int32} {cm : Nat → Int32} {cn : Nat} {n : Nat} {mn : Nat} (smo : z_Mo h 215 th al cg sv rs ac rj ro ad bf ln lz ip ty he er ea fa cm cn n mn)     (hd : 4 ≤ d) : q_Spec g mX11_successfulCount d 0 0 [.ref (215)] h (q_chg (.inl (some (.int (x_mo_successfulCount al n).1))) (fun h1 => z_Mo h1 215 ((x_mo_successfulCount al n).2) al cg sv rs ac rj ro ad bf ln lz ip ty he er ea fa cm cn n mn ∧ q_same h h1 215 8)) := by
  have hb_mo_cg := smo.bcg
  have hb_mo_lz := smo.blz
  have hb_mo_ty := smo.bty
  have hb_mo_he := smo.bhe
  have hb_mo_cn := smo.bcn
  have hb_mo_n := smo.bn
  have hb_mo_mn := smo.bmn
  have ho_mo_cg := smo.bcg
  have ho_mo_lz := smo.blz
  have ho_mo_ty := smo.bty
  have ho_mo_he := smo.bhe
  have ho_mo_cn := smo.bcn
  have ho_mo_n := smo.bn
  have ho_mo_mn := smo.bmn
  have p0 : q_same h h 215 8 := q_same.rfl'
  refine q_enter (by decide +kernel) rfl rfl (Nat.le_of_ble_eq_true rfl) (fun hz => ?_)
  change q_W _ _ _ _ _ _ _ _ _ [.ref (215), q_u, q_u] [] _
  refine q_aload_n (by first | assumption | omega | decide | (rw [q_R0e]; omega)) dX11_successfulCount_0 rfl ?_
  refine q_iconst (v := 0) dX11_successfulCount_1 rfl ?_
  refine q_putf (k := 0) kC_X11 kL_X11_40 rfl (by decide) rfl dX11_successfulCount_2 smo.c0 (Nat.le_of_ble_eq_true rfl) ⟨rfl, rfl⟩ rfl ?_
  refine z_genW (B := fun H => z_Mo H 215 0 al cg sv rs ac rj ro ad bf ln lz ip ty he er ea fa cm cn n mn ∧ q_same h H 215 8) ⟨z_Mo.put0 smo (cg' := cg) (sv' := sv) (lz' := lz) (ty' := ty) (he' := he) (cn' := cn) (hbcg := by first | omega | (split <;> omega)) (hblz := by first | omega | (split <;> omega)) (hbty := by first | omega | (split <;> omega)) (hbhe := by first | omega | (split <;> omega)) (hbcn := by first | omega | (split <;> omega)), p0.trans (q_same.set (by omega) (by omega))⟩ (fun h1 hB => ?_)
  obtain ⟨smo1, p1⟩ := hB
  have hb_mo_cg := smo1.bcg
  have hb_mo_lz := smo1.blz
  have hb_mo_ty := smo1.bty
  have hb_mo_he := smo1.bhe
  have hb_mo_cn := smo1.bcn
  have hb_mo_n := smo1.bn
  have hb_mo_mn := smo1.bmn
  refine q_iconst (v := 0) dX11_successfulCount_5 rfl ?_
  refine q_istore_n dX11_successfulCount_6 (by decide) rfl ?_
  change q_W _ _ _ _ _ _ _ _ _ [.ref (215), .int (0), q_u] [] _
  refine q_iconst (v := 0) dX11_successfulCount_7 rfl ?_
  refine q_istore_n dX11_successfulCount_8 (by decide) rfl ?_
  change q_W _ _ _ _ _ _ _ _ _ [.ref (215), .int (0), .int (0)] [] _
  change q_W _ _ _ _ _ _ _ _ _ [.ref (215), .int (0), .int (0)] [] _
  refine l_mo_successfulCount_9 smo1 p1 ho_mo_cg ho_mo_lz ho_mo_ty ho_mo_he ho_mo_cn ho_mo_n ho_mo_mn (by omega) (by omega) (by omega) n 0 0 (by omega) (fun a2_0 x2 => ?_)
  change q_W _ _ _ _ _ _ _ _ 36 [q_u, .int (a2_0), q_u] [] _
  refine q_iload_n dX11_successfulCount_36 rfl ?_
  have hE : x_mo_successfulCount al n = (a2_0, 0) := by simp only [x_mo_successfulCount, x2]
  rw [hE]
  exact q_ireturn dX11_successfulCount_37 rfl rfl (by omega) (by omega) ⟨rfl, smo1, p1⟩
def x_mo_undoableCount (cg : Nat) : (Int32) × (Int32) := (nI (cg), 0)
set_option maxRecDepth 100000 in
set_option maxHeartbeats 8000000 in
theorem e_mo_undoableCount {g : q_G} {h : q_H} {d : Nat} {th : Int32} {al : Nat → Int32} {cg : Nat} {sv : Bool} {rs : Int32} {ac : Int32} {rj : Int32} {ro : Nat → Int32} {ad : Nat → Int32} {bf : Nat → Int32} {ln : Nat → Int32} {lz : Nat} {ip : Nat → Int32} {ty : Nat} {he : Nat} {er : Int32} {ea : Int32} {fa : Int32} {cm : Nat → Int32} {cn : Nat} {n : Nat} {mn : Nat} (smo : z_Mo h 215 th al cg sv rs ac rj ro ad bf ln lz ip ty he er ea fa cm cn n mn)     (hd : 0 ≤ d) : q_Spec g mX11_undoableCount d 0 0 [.ref (215)] h (q_chg (.inl (some (.int (x_mo_undoableCount cg).1))) (fun h1 => z_Mo h1 215 ((x_mo_undoableCount cg).2) al cg sv rs ac rj ro ad bf ln lz ip ty he er ea fa cm cn n mn ∧ q_same h h1 215 8)) := by
  have hb_mo_cg := smo.bcg
  have hb_mo_lz := smo.blz
  have hb_mo_ty := smo.bty
  have hb_mo_he := smo.bhe
  have hb_mo_cn := smo.bcn
  have hb_mo_n := smo.bn
  have hb_mo_mn := smo.bmn
  have ho_mo_cg := smo.bcg
  have ho_mo_lz := smo.blz
  have ho_mo_ty := smo.bty
  have ho_mo_he := smo.bhe
  have ho_mo_cn := smo.bcn
  have ho_mo_n := smo.bn
  have ho_mo_mn := smo.bmn
  have p0 : q_same h h 215 8 := q_same.rfl'
  refine q_enter (by decide +kernel) rfl rfl (Nat.le_of_ble_eq_true rfl) (fun hz => ?_)
  change q_W _ _ _ _ _ _ _ _ _ [.ref (215)] [] _
  refine q_aload_n (by first | assumption | omega | decide | (rw [q_R0e]; omega)) dX11_undoableCount_0 rfl ?_
  refine q_iconst (v := 0) dX11_undoableCount_1 rfl ?_
  refine q_putf (k := 0) kC_X11 kL_X11_40 rfl (by decide) rfl dX11_undoableCount_2 smo.c0 (Nat.le_of_ble_eq_true rfl) ⟨rfl, rfl⟩ rfl ?_
  refine z_genW (B := fun H => z_Mo H 215 0 al cg sv rs ac rj ro ad bf ln lz ip ty he er ea fa cm cn n mn ∧ q_same h H 215 8) ⟨z_Mo.put0 smo (cg' := cg) (sv' := sv) (lz' := lz) (ty' := ty) (he' := he) (cn' := cn) (hbcg := by first | omega | (split <;> omega)) (hblz := by first | omega | (split <;> omega)) (hbty := by first | omega | (split <;> omega)) (hbhe := by first | omega | (split <;> omega)) (hbcn := by first | omega | (split <;> omega)), p0.trans (q_same.set (by omega) (by omega))⟩ (fun h1 hB => ?_)
  obtain ⟨smo1, p1⟩ := hB
  have hb_mo_cg := smo1.bcg
  have hb_mo_lz := smo1.blz
  have hb_mo_ty := smo1.bty
  have hb_mo_he := smo1.bhe
  have hb_mo_cn := smo1.bcn
  have hb_mo_n := smo1.bn
  have hb_mo_mn := smo1.bmn
  refine q_aload_n (by first | assumption | omega | decide | (rw [q_R0e]; omega)) dX11_undoableCount_5 rfl ?_
  refine q_getf (k := 2) (v := .int (nI (cg))) kC_X11 kL_X11_47 rfl (by decide) dX11_undoableCount_6 smo1.c0 rfl ?_
  have hE : x_mo_undoableCount cg = (nI (cg), 0) := by simp only [x_mo_undoableCount]
  rw [hE]
  exact q_ireturn dX11_undoableCount_9 rfl rfl (by omega) (by omega) ⟨rfl, smo1, p1⟩
def x_mo_idAt (al : Nat → Int32) (n : Nat) (xp : Int32) : (Int32) × (Int32) := (if x_mo_in xp 0 ((nI (n)) - (1 : Int32)) then (al (7 + 3 * (xp).toNatClampNeg + 0), (if x_mo_in xp 0 ((nI (n)) - (1 : Int32)) then 0 else 1)) else (0, (if x_mo_in xp 0 ((nI (n)) - (1 : Int32)) then 0 else 1)))
set_option maxRecDepth 100000 in
set_option maxHeartbeats 8000000 in
theorem e_mo_idAt {g : q_G} {h : q_H} {d : Nat} {th : Int32} {al : Nat → Int32} {cg : Nat} {sv : Bool} {rs : Int32} {ac : Int32} {rj : Int32} {ro : Nat → Int32} {ad : Nat → Int32} {bf : Nat → Int32} {ln : Nat → Int32} {lz : Nat} {ip : Nat → Int32} {ty : Nat} {he : Nat} {er : Int32} {ea : Int32} {fa : Int32} {cm : Nat → Int32} {cn : Nat} {n : Nat} {mn : Nat} (smo : z_Mo h 215 th al cg sv rs ac rj ro ad bf ln lz ip ty he er ea fa cm cn n mn)  (xp : Int32)   (hd : 1 ≤ d) : q_Spec g mX11_idAt d 0 0 [.ref (215), .int (xp)] h (q_chg (.inl (some (.int (x_mo_idAt al n xp).1))) (fun h1 => z_Mo h1 215 ((x_mo_idAt al n xp).2) al cg sv rs ac rj ro ad bf ln lz ip ty he er ea fa cm cn n mn ∧ q_same h h1 215 8)) := by
  have hb_mo_cg := smo.bcg
  have hb_mo_lz := smo.blz
  have hb_mo_ty := smo.bty
  have hb_mo_he := smo.bhe
  have hb_mo_cn := smo.bcn
  have hb_mo_n := smo.bn
  have hb_mo_mn := smo.bmn
  have ho_mo_cg := smo.bcg
  have ho_mo_lz := smo.blz
  have ho_mo_ty := smo.bty
  have ho_mo_he := smo.bhe
  have ho_mo_cn := smo.bcn
  have ho_mo_n := smo.bn
  have ho_mo_mn := smo.bmn
  have p0 : q_same h h 215 8 := q_same.rfl'
  refine q_enter (by decide +kernel) rfl rfl (Nat.le_of_ble_eq_true rfl) (fun hz => ?_)
  change q_W _ _ _ _ _ _ _ _ _ [.ref (215), .int (xp)] [] _
  refine q_aload_n (by first | assumption | omega | decide | (rw [q_R0e]; omega)) dX11_idAt_0 rfl ?_
  refine q_iload_n dX11_idAt_1 rfl ?_
  refine q_iconst (v := 0) dX11_idAt_2 rfl ?_
  refine q_aload_n (by first | assumption | omega | decide | (rw [q_R0e]; omega)) dX11_idAt_3 rfl ?_
  refine q_getf (k := 1) (v := .ref (216)) kC_X11 kL_X11_9 rfl (by decide) dX11_idAt_4 smo.c0 rfl ?_
  refine q_iconst (v := 0) dX11_idAt_7 rfl ?_
  refine q_ialdN (j := 0) (f := al) dX11_idAt_8 smo.c1 (by omega) (by decide) ?_
  rw [smo.en]
  change q_W _ _ _ _ _ _ _ _ _ _ [.int (nI (n)), .int (0), .int (xp), .ref (215)] _
  refine q_iconst (v := 1) dX11_idAt_9 rfl ?_
  refine q_isub dX11_idAt_10 ?_
  refine q_invS (mc' := 0) (ms' := 0) (d' := d - 1) (as := [.int (xp), .int (0), .int ((nI (n)) - (1 : Int32))]) dX11_idAt_11 kM_X11_in kL_X11_109 kT_X11_in rfl rfl rfl (Nat.le_of_ble_eq_true rfl) (by omega) (by decide) (by omega) (by omega) (e_mo_in (d := d - 1) xp 0 ((nI (n)) - (1 : Int32)) (by omega)) (q_kR ?_) q_xR
  change q_W _ _ _ _ _ _ _ _ 14 [.ref (215), .int (xp)] [.int (z_b (x_mo_in xp 0 ((nI (n)) - (1 : Int32)))), .ref (215)] _
  refine q_invV (mc' := 0) (ms' := 0) (d' := d - 1) (as := [.int (z_b (x_mo_in xp 0 ((nI (n)) - (1 : Int32))))]) dX11_idAt_14 kM_X11_isFine kL_X11_181 kI_X11_isFine kS_X11_isFine rfl (kC_X11.1) smo.c0 rfl rfl (Nat.le_of_ble_eq_true rfl) (by omega) (by decide) (by omega) (by omega) (e_isFine (d := d - 1) smo (xb := (x_mo_in xp 0 ((nI (n)) - (1 : Int32)))) (by omega)) (q_kC (fun h1 hB => ?_)) q_xC
  obtain ⟨t1_0, pp1⟩ := hB
  have smo1 : z_Mo h1 215 (if x_mo_in xp 0 ((nI (n)) - (1 : Int32)) then 0 else 1) al cg sv rs ac rj ro ad bf ln lz ip ty he er ea fa cm cn n mn := t1_0
  have p1 := p0.trans (pp1.wide (by omega) (by omega))
  have hb_mo_cg := smo1.bcg
  have hb_mo_lz := smo1.blz
  have hb_mo_ty := smo1.bty
  have hb_mo_he := smo1.bhe
  have hb_mo_cn := smo1.bcn
  have hb_mo_n := smo1.bn
  have hb_mo_mn := smo1.bmn
  change q_W _ _ _ _ _ _ _ _ 17 [.ref (215), .int (xp)] [.int (z_b (x_mo_in xp 0 ((nI (n)) - (1 : Int32))))] _
  refine q_if_eq 29 dX11_idAt_17 (by decide) (fun b17 => ?_) (fun b17 => ?_)
  · have b17 := z_b0n b17
    refine q_iconst (v := 0) dX11_idAt_29 rfl ?_
    have hE : x_mo_idAt al n xp = (0, (if x_mo_in xp 0 ((nI (n)) - (1 : Int32)) then 0 else 1)) := by simp only [x_mo_idAt, if_neg b17]
    rw [hE]
    exact q_ireturn dX11_idAt_30 rfl rfl (by omega) (by omega) ⟨rfl, smo1, p1⟩
  · have b17 := z_b1 b17
    refine q_aload_n (by first | assumption | omega | decide | (rw [q_R0e]; omega)) dX11_idAt_20 rfl ?_
    refine q_iload_n dX11_idAt_21 rfl ?_
    refine q_iconst (v := 0) dX11_idAt_22 rfl ?_
    refine q_invV (mc' := 0) (ms' := 0) (d' := d - 1) (as := [.int (xp), .int (0)]) dX11_idAt_23 kM_X11_a kL_X11_53 kI_X11_a kS_X11_a rfl (kC_X11.1) smo1.c0 rfl rfl (Nat.le_of_ble_eq_true rfl) (by omega) (by decide) (by omega) (by omega) (e_mo_aR (d := d - 1) smo1 0 (by omega) ((z_in0 (by omega) b17).1) ((z_in0 (by omega) b17).2) (by omega)) (q_kR ?_) q_xR
    change q_W _ _ _ _ _ _ _ _ 26 [.ref (215), .int (xp)] [.int (al (7 + 3 * (xp).toNatClampNeg + 0))] _
    refine q_goto 30 dX11_idAt_26 (by decide) ?_
    have hE : x_mo_idAt al n xp = (al (7 + 3 * (xp).toNatClampNeg + 0), (if x_mo_in xp 0 ((nI (n)) - (1 : Int32)) then 0 else 1)) := by simp only [x_mo_idAt, if_pos b17]
    rw [hE]
    exact q_ireturn dX11_idAt_30 rfl rfl (by omega) (by omega) ⟨rfl, smo1, p1⟩
def x_mo_ofArgument (al : Nat → Int32) (n : Nat) (xid : Int32) (w : Nat) : (Int32) × (Int32) := (if x_th n al xid then (al (7 + 3 * (x_pl n al xid - 1) + w), (if x_th n al xid then 0 else 1)) else (0, (if x_th n al xid then 0 else 1)))
set_option maxRecDepth 100000 in
set_option maxHeartbeats 8000000 in
theorem e_mo_ofArgument {g : q_G} {h : q_H} {d : Nat} {th : Int32} {al : Nat → Int32} {cg : Nat} {sv : Bool} {rs : Int32} {ac : Int32} {rj : Int32} {ro : Nat → Int32} {ad : Nat → Int32} {bf : Nat → Int32} {ln : Nat → Int32} {lz : Nat} {ip : Nat → Int32} {ty : Nat} {he : Nat} {er : Int32} {ea : Int32} {fa : Int32} {cm : Nat → Int32} {cn : Nat} {n : Nat} {mn : Nat} (smo : z_Mo h 215 th al cg sv rs ac rj ro ad bf ln lz ip ty he er ea fa cm cn n mn)  (xid : Int32) (w : Nat) (hw : w < 3)  (hd : 3 ≤ d) : q_Spec g mX11_ofArgument d 0 0 [.ref (215), .int (xid), .int (nI (w))] h (q_chg (.inl (some (.int (x_mo_ofArgument al n xid w).1))) (fun h1 => z_Mo h1 215 ((x_mo_ofArgument al n xid w).2) al cg sv rs ac rj ro ad bf ln lz ip ty he er ea fa cm cn n mn ∧ q_same h h1 215 8)) := by
  have hb_mo_cg := smo.bcg
  have hb_mo_lz := smo.blz
  have hb_mo_ty := smo.bty
  have hb_mo_he := smo.bhe
  have hb_mo_cn := smo.bcn
  have hb_mo_n := smo.bn
  have hb_mo_mn := smo.bmn
  have ho_mo_cg := smo.bcg
  have ho_mo_lz := smo.blz
  have ho_mo_ty := smo.bty
  have ho_mo_he := smo.bhe
  have ho_mo_cn := smo.bcn
  have ho_mo_n := smo.bn
  have ho_mo_mn := smo.bmn
  have p0 : q_same h h 215 8 := q_same.rfl'
  refine q_enter (by decide +kernel) rfl rfl (Nat.le_of_ble_eq_true rfl) (fun hz => ?_)
  change q_W _ _ _ _ _ _ _ _ _ [.ref (215), .int (xid), .int (nI (w))] [] _
  refine q_aload_n (by first | assumption | omega | decide | (rw [q_R0e]; omega)) dX11_ofArgument_0 rfl ?_
  refine q_aload_n (by first | assumption | omega | decide | (rw [q_R0e]; omega)) dX11_ofArgument_1 rfl ?_
  refine q_iload_n dX11_ofArgument_2 rfl ?_
  refine q_invV (mc' := 0) (ms' := 0) (d' := d - 1) (as := [.int (xid)]) dX11_ofArgument_3 kM_X11_isThere kL_X11_141 kI_X11_isThere kS_X11_isThere rfl (kC_X11.1) smo.c0 rfl rfl (Nat.le_of_ble_eq_true rfl) (by omega) (by decide) (by omega) (by omega) (e_isThere (d := d - 1) smo xid (by omega)) (q_kR ?_) q_xR
  change q_W _ _ _ _ _ _ _ _ 6 [.ref (215), .int (xid), .int (nI (w))] [.int (z_b (x_th n al xid)), .ref (215)] _
  refine q_invV (mc' := 0) (ms' := 0) (d' := d - 1) (as := [.int (z_b (x_th n al xid))]) dX11_ofArgument_6 kM_X11_isFine kL_X11_181 kI_X11_isFine kS_X11_isFine rfl (kC_X11.1) smo.c0 rfl rfl (Nat.le_of_ble_eq_true rfl) (by omega) (by decide) (by omega) (by omega) (e_isFine (d := d - 1) smo (xb := (x_th n al xid)) (by omega)) (q_kC (fun h1 hB => ?_)) q_xC
  obtain ⟨t1_0, pp1⟩ := hB
  have smo1 : z_Mo h1 215 (if x_th n al xid then 0 else 1) al cg sv rs ac rj ro ad bf ln lz ip ty he er ea fa cm cn n mn := t1_0
  have p1 := p0.trans (pp1.wide (by omega) (by omega))
  have hb_mo_cg := smo1.bcg
  have hb_mo_lz := smo1.blz
  have hb_mo_ty := smo1.bty
  have hb_mo_he := smo1.bhe
  have hb_mo_cn := smo1.bcn
  have hb_mo_n := smo1.bn
  have hb_mo_mn := smo1.bmn
  change q_W _ _ _ _ _ _ _ _ 9 [.ref (215), .int (xid), .int (nI (w))] [.int (z_b (x_th n al xid))] _
  refine q_if_eq 25 dX11_ofArgument_9 (by decide) (fun b9 => ?_) (fun b9 => ?_)
  · have b9 := z_b0n b9
    have fb9 : x_pl n al xid = 0 := z_nth b9
    refine q_iconst (v := 0) dX11_ofArgument_25 rfl ?_
    have hE : x_mo_ofArgument al n xid w = (0, (if x_th n al xid then 0 else 1)) := by simp only [x_mo_ofArgument, if_neg b9]
    rw [hE]
    exact q_ireturn dX11_ofArgument_26 rfl rfl (by omega) (by omega) ⟨rfl, smo1, p1⟩
  · have b9 := z_b1 b9
    have fb9 : 0 < x_pl n al xid := z_th b9
    refine q_aload_n (by first | assumption | omega | decide | (rw [q_R0e]; omega)) dX11_ofArgument_12 rfl ?_
    refine q_aload_n (by first | assumption | omega | decide | (rw [q_R0e]; omega)) dX11_ofArgument_13 rfl ?_
    refine q_iload_n dX11_ofArgument_14 rfl ?_
    have g2 : x_pl n al xid ≤ n := x_pl_le
    refine q_invV (mc' := 0) (ms' := 0) (d' := d - 1) (as := [.int (xid)]) dX11_ofArgument_15 kM_X11_place kL_X11_57 kI_X11_place kS_X11_place rfl (kC_X11.1) smo1.c0 rfl rfl (Nat.le_of_ble_eq_true rfl) (by omega) (by decide) (by omega) (by omega) (e_placeP (d := d - 1) smo1 xid (by omega) (by omega)) (q_kR ?_) q_xR
    change q_W _ _ _ _ _ _ _ _ 18 [.ref (215), .int (xid), .int (nI (w))] [.int (nI (x_pl n al xid - 1)), .ref (215)] _
    refine q_iload_n dX11_ofArgument_18 rfl ?_
    refine q_invV (mc' := 0) (ms' := 0) (d' := d - 1) (as := [.int (nI (x_pl n al xid - 1)), .int (nI (w))]) dX11_ofArgument_19 kM_X11_a kL_X11_53 kI_X11_a kS_X11_a rfl (kC_X11.1) smo1.c0 rfl rfl (Nat.le_of_ble_eq_true rfl) (by omega) (by decide) (by omega) (by omega) (e_mo_a (d := d - 1) smo1 (x_pl n al xid - 1) w (by omega) (by omega) (by omega)) (q_kR ?_) q_xR
    change q_W _ _ _ _ _ _ _ _ 22 [.ref (215), .int (xid), .int (nI (w))] [.int (al (7 + 3 * (x_pl n al xid - 1) + w))] _
    refine q_goto 26 dX11_ofArgument_22 (by decide) ?_
    have hE : x_mo_ofArgument al n xid w = (al (7 + 3 * (x_pl n al xid - 1) + w), (if x_th n al xid then 0 else 1)) := by simp only [x_mo_ofArgument, if_pos b9]
    rw [hE]
    exact q_ireturn dX11_ofArgument_26 rfl rfl (by omega) (by omega) ⟨rfl, smo1, p1⟩
def x_mo_weightOf (al : Nat → Int32) (n : Nat) (xid : Int32) : (Int32) × (Int32) := (match x_mo_ofArgument al n xid 1 with | (v1, y1_th) => (v1, y1_th))
set_option maxRecDepth 100000 in
set_option maxHeartbeats 8000000 in
theorem e_mo_weightOf {g : q_G} {h : q_H} {d : Nat} {th : Int32} {al : Nat → Int32} {cg : Nat} {sv : Bool} {rs : Int32} {ac : Int32} {rj : Int32} {ro : Nat → Int32} {ad : Nat → Int32} {bf : Nat → Int32} {ln : Nat → Int32} {lz : Nat} {ip : Nat → Int32} {ty : Nat} {he : Nat} {er : Int32} {ea : Int32} {fa : Int32} {cm : Nat → Int32} {cn : Nat} {n : Nat} {mn : Nat} (smo : z_Mo h 215 th al cg sv rs ac rj ro ad bf ln lz ip ty he er ea fa cm cn n mn)  (xid : Int32)   (hd : 4 ≤ d) : q_Spec g mX11_weightOf d 0 0 [.ref (215), .int (xid)] h (q_chg (.inl (some (.int (x_mo_weightOf al n xid).1))) (fun h1 => z_Mo h1 215 ((x_mo_weightOf al n xid).2) al cg sv rs ac rj ro ad bf ln lz ip ty he er ea fa cm cn n mn ∧ q_same h h1 215 8)) := by
  have hb_mo_cg := smo.bcg
  have hb_mo_lz := smo.blz
  have hb_mo_ty := smo.bty
  have hb_mo_he := smo.bhe
  have hb_mo_cn := smo.bcn
  have hb_mo_n := smo.bn
  have hb_mo_mn := smo.bmn
  have ho_mo_cg := smo.bcg
  have ho_mo_lz := smo.blz
  have ho_mo_ty := smo.bty
  have ho_mo_he := smo.bhe
  have ho_mo_cn := smo.bcn
  have ho_mo_n := smo.bn
  have ho_mo_mn := smo.bmn
  have p0 : q_same h h 215 8 := q_same.rfl'
  refine q_enter (by decide +kernel) rfl rfl (Nat.le_of_ble_eq_true rfl) (fun hz => ?_)
  change q_W _ _ _ _ _ _ _ _ _ [.ref (215), .int (xid)] [] _
  refine q_aload_n (by first | assumption | omega | decide | (rw [q_R0e]; omega)) dX11_weightOf_0 rfl ?_
  refine q_iload_n dX11_weightOf_1 rfl ?_
  refine q_iconst (v := 1) dX11_weightOf_2 rfl ?_
  rcases x1 : x_mo_ofArgument al n xid 1 with ⟨v1, y1_th⟩
  have e9 := e_mo_ofArgument (g := g) (h := h) (d := d - 1) smo xid 1 (by omega) (by omega)
  rw [x1] at e9
  refine q_invV (mc' := 0) (ms' := 0) (d' := d - 1) (as := [.int (xid), .int (1)]) dX11_weightOf_3 kM_X11_ofArgument kL_X11_185 kI_X11_ofArgument kS_X11_ofArgument rfl (kC_X11.1) smo.c0 rfl rfl (Nat.le_of_ble_eq_true rfl) (by omega) (by decide) (by omega) (by omega) (e9) (q_kC (fun h2 hB => ?_)) q_xC
  obtain ⟨t2_0, pp2⟩ := hB
  have smo2 := t2_0
  have p2 := p0.trans (pp2.wide (by omega) (by omega))
  have hb_mo_cg := smo2.bcg
  have hb_mo_lz := smo2.blz
  have hb_mo_ty := smo2.bty
  have hb_mo_he := smo2.bhe
  have hb_mo_cn := smo2.bcn
  have hb_mo_n := smo2.bn
  have hb_mo_mn := smo2.bmn
  change q_W _ _ _ _ _ _ _ _ 6 [.ref (215), .int (xid)] [.int (v1)] _
  have hE : x_mo_weightOf al n xid = (v1, y1_th) := by simp only [x_mo_weightOf, x1]
  rw [hE]
  exact q_ireturn dX11_weightOf_6 rfl rfl (by omega) (by omega) ⟨rfl, smo2, p2⟩
def x_mo_ageOf (al : Nat → Int32) (n : Nat) (xid : Int32) : (Int32) × (Int32) := (match x_mo_ofArgument al n xid 2 with | (v1, y1_th) => (v1, y1_th))
set_option maxRecDepth 100000 in
set_option maxHeartbeats 8000000 in
theorem e_mo_ageOf {g : q_G} {h : q_H} {d : Nat} {th : Int32} {al : Nat → Int32} {cg : Nat} {sv : Bool} {rs : Int32} {ac : Int32} {rj : Int32} {ro : Nat → Int32} {ad : Nat → Int32} {bf : Nat → Int32} {ln : Nat → Int32} {lz : Nat} {ip : Nat → Int32} {ty : Nat} {he : Nat} {er : Int32} {ea : Int32} {fa : Int32} {cm : Nat → Int32} {cn : Nat} {n : Nat} {mn : Nat} (smo : z_Mo h 215 th al cg sv rs ac rj ro ad bf ln lz ip ty he er ea fa cm cn n mn)  (xid : Int32)   (hd : 4 ≤ d) : q_Spec g mX11_ageOf d 0 0 [.ref (215), .int (xid)] h (q_chg (.inl (some (.int (x_mo_ageOf al n xid).1))) (fun h1 => z_Mo h1 215 ((x_mo_ageOf al n xid).2) al cg sv rs ac rj ro ad bf ln lz ip ty he er ea fa cm cn n mn ∧ q_same h h1 215 8)) := by
  have hb_mo_cg := smo.bcg
  have hb_mo_lz := smo.blz
  have hb_mo_ty := smo.bty
  have hb_mo_he := smo.bhe
  have hb_mo_cn := smo.bcn
  have hb_mo_n := smo.bn
  have hb_mo_mn := smo.bmn
  have ho_mo_cg := smo.bcg
  have ho_mo_lz := smo.blz
  have ho_mo_ty := smo.bty
  have ho_mo_he := smo.bhe
  have ho_mo_cn := smo.bcn
  have ho_mo_n := smo.bn
  have ho_mo_mn := smo.bmn
  have p0 : q_same h h 215 8 := q_same.rfl'
  refine q_enter (by decide +kernel) rfl rfl (Nat.le_of_ble_eq_true rfl) (fun hz => ?_)
  change q_W _ _ _ _ _ _ _ _ _ [.ref (215), .int (xid)] [] _
  refine q_aload_n (by first | assumption | omega | decide | (rw [q_R0e]; omega)) dX11_ageOf_0 rfl ?_
  refine q_iload_n dX11_ageOf_1 rfl ?_
  refine q_iconst (v := 2) dX11_ageOf_2 rfl ?_
  rcases x1 : x_mo_ofArgument al n xid 2 with ⟨v1, y1_th⟩
  have e9 := e_mo_ofArgument (g := g) (h := h) (d := d - 1) smo xid 2 (by omega) (by omega)
  rw [x1] at e9
  refine q_invV (mc' := 0) (ms' := 0) (d' := d - 1) (as := [.int (xid), .int (2)]) dX11_ageOf_3 kM_X11_ofArgument kL_X11_185 kI_X11_ofArgument kS_X11_ofArgument rfl (kC_X11.1) smo.c0 rfl rfl (Nat.le_of_ble_eq_true rfl) (by omega) (by decide) (by omega) (by omega) (e9) (q_kC (fun h2 hB => ?_)) q_xC
  obtain ⟨t2_0, pp2⟩ := hB
  have smo2 := t2_0
  have p2 := p0.trans (pp2.wide (by omega) (by omega))
  have hb_mo_cg := smo2.bcg
  have hb_mo_lz := smo2.blz
  have hb_mo_ty := smo2.bty
  have hb_mo_he := smo2.bhe
  have hb_mo_cn := smo2.bcn
  have hb_mo_n := smo2.bn
  have hb_mo_mn := smo2.bmn
  change q_W _ _ _ _ _ _ _ _ 6 [.ref (215), .int (xid)] [.int (v1)] _
  have hE : x_mo_ageOf al n xid = (v1, y1_th) := by simp only [x_mo_ageOf, x1]
  rw [hE]
  exact q_ireturn dX11_ageOf_6 rfl rfl (by omega) (by omega) ⟨rfl, smo2, p2⟩
def x_mo_strengthOf (al : Nat → Int32) (n : Nat) (xid : Int32) : (Int32) × (Int32) := (if x_th n al xid then (x_mo_strength al (x_pl n al xid - 1), (if x_th n al xid then 0 else 1)) else (0, (if x_th n al xid then 0 else 1)))
set_option maxRecDepth 100000 in
set_option maxHeartbeats 8000000 in
theorem e_mo_strengthOf {g : q_G} {h : q_H} {d : Nat} {th : Int32} {al : Nat → Int32} {cg : Nat} {sv : Bool} {rs : Int32} {ac : Int32} {rj : Int32} {ro : Nat → Int32} {ad : Nat → Int32} {bf : Nat → Int32} {ln : Nat → Int32} {lz : Nat} {ip : Nat → Int32} {ty : Nat} {he : Nat} {er : Int32} {ea : Int32} {fa : Int32} {cm : Nat → Int32} {cn : Nat} {n : Nat} {mn : Nat} (smo : z_Mo h 215 th al cg sv rs ac rj ro ad bf ln lz ip ty he er ea fa cm cn n mn)  (xid : Int32)   (hd : 3 ≤ d) : q_Spec g mX11_strengthOf d 0 0 [.ref (215), .int (xid)] h (q_chg (.inl (some (.int (x_mo_strengthOf al n xid).1))) (fun h1 => z_Mo h1 215 ((x_mo_strengthOf al n xid).2) al cg sv rs ac rj ro ad bf ln lz ip ty he er ea fa cm cn n mn ∧ q_same h h1 215 8)) := by
  have hb_mo_cg := smo.bcg
  have hb_mo_lz := smo.blz
  have hb_mo_ty := smo.bty
  have hb_mo_he := smo.bhe
  have hb_mo_cn := smo.bcn
  have hb_mo_n := smo.bn
  have hb_mo_mn := smo.bmn
  have ho_mo_cg := smo.bcg
  have ho_mo_lz := smo.blz
  have ho_mo_ty := smo.bty
  have ho_mo_he := smo.bhe
  have ho_mo_cn := smo.bcn
  have ho_mo_n := smo.bn
  have ho_mo_mn := smo.bmn
  have p0 : q_same h h 215 8 := q_same.rfl'
  refine q_enter (by decide +kernel) rfl rfl (Nat.le_of_ble_eq_true rfl) (fun hz => ?_)
  change q_W _ _ _ _ _ _ _ _ _ [.ref (215), .int (xid)] [] _
  refine q_aload_n (by first | assumption | omega | decide | (rw [q_R0e]; omega)) dX11_strengthOf_0 rfl ?_
  refine q_aload_n (by first | assumption | omega | decide | (rw [q_R0e]; omega)) dX11_strengthOf_1 rfl ?_
  refine q_iload_n dX11_strengthOf_2 rfl ?_
  refine q_invV (mc' := 0) (ms' := 0) (d' := d - 1) (as := [.int (xid)]) dX11_strengthOf_3 kM_X11_isThere kL_X11_141 kI_X11_isThere kS_X11_isThere rfl (kC_X11.1) smo.c0 rfl rfl (Nat.le_of_ble_eq_true rfl) (by omega) (by decide) (by omega) (by omega) (e_isThere (d := d - 1) smo xid (by omega)) (q_kR ?_) q_xR
  change q_W _ _ _ _ _ _ _ _ 6 [.ref (215), .int (xid)] [.int (z_b (x_th n al xid)), .ref (215)] _
  refine q_invV (mc' := 0) (ms' := 0) (d' := d - 1) (as := [.int (z_b (x_th n al xid))]) dX11_strengthOf_6 kM_X11_isFine kL_X11_181 kI_X11_isFine kS_X11_isFine rfl (kC_X11.1) smo.c0 rfl rfl (Nat.le_of_ble_eq_true rfl) (by omega) (by decide) (by omega) (by omega) (e_isFine (d := d - 1) smo (xb := (x_th n al xid)) (by omega)) (q_kC (fun h1 hB => ?_)) q_xC
  obtain ⟨t1_0, pp1⟩ := hB
  have smo1 : z_Mo h1 215 (if x_th n al xid then 0 else 1) al cg sv rs ac rj ro ad bf ln lz ip ty he er ea fa cm cn n mn := t1_0
  have p1 := p0.trans (pp1.wide (by omega) (by omega))
  have hb_mo_cg := smo1.bcg
  have hb_mo_lz := smo1.blz
  have hb_mo_ty := smo1.bty
  have hb_mo_he := smo1.bhe
  have hb_mo_cn := smo1.bcn
  have hb_mo_n := smo1.bn
  have hb_mo_mn := smo1.bmn
  change q_W _ _ _ _ _ _ _ _ 9 [.ref (215), .int (xid)] [.int (z_b (x_th n al xid))] _
  refine q_if_eq 24 dX11_strengthOf_9 (by decide) (fun b9 => ?_) (fun b9 => ?_)
  · have b9 := z_b0n b9
    have fb9 : x_pl n al xid = 0 := z_nth b9
    refine q_iconst (v := 0) dX11_strengthOf_24 rfl ?_
    have hE : x_mo_strengthOf al n xid = (0, (if x_th n al xid then 0 else 1)) := by simp only [x_mo_strengthOf, if_neg b9]
    rw [hE]
    exact q_ireturn dX11_strengthOf_25 rfl rfl (by omega) (by omega) ⟨rfl, smo1, p1⟩
  · have b9 := z_b1 b9
    have fb9 : 0 < x_pl n al xid := z_th b9
    refine q_aload_n (by first | assumption | omega | decide | (rw [q_R0e]; omega)) dX11_strengthOf_12 rfl ?_
    refine q_aload_n (by first | assumption | omega | decide | (rw [q_R0e]; omega)) dX11_strengthOf_13 rfl ?_
    refine q_iload_n dX11_strengthOf_14 rfl ?_
    have g2 : x_pl n al xid ≤ n := x_pl_le
    refine q_invV (mc' := 0) (ms' := 0) (d' := d - 1) (as := [.int (xid)]) dX11_strengthOf_15 kM_X11_place kL_X11_57 kI_X11_place kS_X11_place rfl (kC_X11.1) smo1.c0 rfl rfl (Nat.le_of_ble_eq_true rfl) (by omega) (by decide) (by omega) (by omega) (e_placeP (d := d - 1) smo1 xid (by omega) (by omega)) (q_kR ?_) q_xR
    change q_W _ _ _ _ _ _ _ _ 18 [.ref (215), .int (xid)] [.int (nI (x_pl n al xid - 1)), .ref (215)] _
    refine q_invV (mc' := 0) (ms' := 0) (d' := d - 1) (as := [.int (nI (x_pl n al xid - 1))]) dX11_strengthOf_18 kM_X11_strength kL_X11_65 kI_X11_strength kS_X11_strength rfl (kC_X11.1) smo1.c0 rfl rfl (Nat.le_of_ble_eq_true rfl) (by omega) (by decide) (by omega) (by omega) (e_mo_strength (d := d - 1) smo1 (x_pl n al xid - 1) (by omega) (by omega)) (q_kR ?_) q_xR
    change q_W _ _ _ _ _ _ _ _ 21 [.ref (215), .int (xid)] [.int (x_mo_strength al (x_pl n al xid - 1))] _
    refine q_goto 25 dX11_strengthOf_21 (by decide) ?_
    have hE : x_mo_strengthOf al n xid = (x_mo_strength al (x_pl n al xid - 1), (if x_th n al xid then 0 else 1)) := by simp only [x_mo_strengthOf, if_pos b9]
    rw [hE]
    exact q_ireturn dX11_strengthOf_25 rfl rfl (by omega) (by omega) ⟨rfl, smo1, p1⟩
def x_mo_attackerCount (al : Nat → Int32) (n : Nat) (xid : Int32) : (Int32) × (Int32) := (if x_th n al xid then (x_mo_size (x_mo_attackers al n (x_pl n al xid - 1)), (if x_th n al xid then 0 else 1)) else (0, (if x_th n al xid then 0 else 1)))
set_option maxRecDepth 100000 in
set_option maxHeartbeats 8000000 in
theorem e_mo_attackerCount {g : q_G} {h : q_H} {d : Nat} {th : Int32} {al : Nat → Int32} {cg : Nat} {sv : Bool} {rs : Int32} {ac : Int32} {rj : Int32} {ro : Nat → Int32} {ad : Nat → Int32} {bf : Nat → Int32} {ln : Nat → Int32} {lz : Nat} {ip : Nat → Int32} {ty : Nat} {he : Nat} {er : Int32} {ea : Int32} {fa : Int32} {cm : Nat → Int32} {cn : Nat} {n : Nat} {mn : Nat} (smo : z_Mo h 215 th al cg sv rs ac rj ro ad bf ln lz ip ty he er ea fa cm cn n mn)  (xid : Int32)   (hd : 4 ≤ d) : q_Spec g mX11_attackerCount d 0 0 [.ref (215), .int (xid)] h (q_chg (.inl (some (.int (x_mo_attackerCount al n xid).1))) (fun h1 => z_Mo h1 215 ((x_mo_attackerCount al n xid).2) al cg sv rs ac rj ro ad bf ln lz ip ty he er ea fa cm cn n mn ∧ q_same h h1 215 8)) := by
  have hb_mo_cg := smo.bcg
  have hb_mo_lz := smo.blz
  have hb_mo_ty := smo.bty
  have hb_mo_he := smo.bhe
  have hb_mo_cn := smo.bcn
  have hb_mo_n := smo.bn
  have hb_mo_mn := smo.bmn
  have ho_mo_cg := smo.bcg
  have ho_mo_lz := smo.blz
  have ho_mo_ty := smo.bty
  have ho_mo_he := smo.bhe
  have ho_mo_cn := smo.bcn
  have ho_mo_n := smo.bn
  have ho_mo_mn := smo.bmn
  have p0 : q_same h h 215 8 := q_same.rfl'
  refine q_enter (by decide +kernel) rfl rfl (Nat.le_of_ble_eq_true rfl) (fun hz => ?_)
  change q_W _ _ _ _ _ _ _ _ _ [.ref (215), .int (xid)] [] _
  refine q_aload_n (by first | assumption | omega | decide | (rw [q_R0e]; omega)) dX11_attackerCount_0 rfl ?_
  refine q_aload_n (by first | assumption | omega | decide | (rw [q_R0e]; omega)) dX11_attackerCount_1 rfl ?_
  refine q_iload_n dX11_attackerCount_2 rfl ?_
  refine q_invV (mc' := 0) (ms' := 0) (d' := d - 1) (as := [.int (xid)]) dX11_attackerCount_3 kM_X11_isThere kL_X11_141 kI_X11_isThere kS_X11_isThere rfl (kC_X11.1) smo.c0 rfl rfl (Nat.le_of_ble_eq_true rfl) (by omega) (by decide) (by omega) (by omega) (e_isThere (d := d - 1) smo xid (by omega)) (q_kR ?_) q_xR
  change q_W _ _ _ _ _ _ _ _ 6 [.ref (215), .int (xid)] [.int (z_b (x_th n al xid)), .ref (215)] _
  refine q_invV (mc' := 0) (ms' := 0) (d' := d - 1) (as := [.int (z_b (x_th n al xid))]) dX11_attackerCount_6 kM_X11_isFine kL_X11_181 kI_X11_isFine kS_X11_isFine rfl (kC_X11.1) smo.c0 rfl rfl (Nat.le_of_ble_eq_true rfl) (by omega) (by decide) (by omega) (by omega) (e_isFine (d := d - 1) smo (xb := (x_th n al xid)) (by omega)) (q_kC (fun h1 hB => ?_)) q_xC
  obtain ⟨t1_0, pp1⟩ := hB
  have smo1 : z_Mo h1 215 (if x_th n al xid then 0 else 1) al cg sv rs ac rj ro ad bf ln lz ip ty he er ea fa cm cn n mn := t1_0
  have p1 := p0.trans (pp1.wide (by omega) (by omega))
  have hb_mo_cg := smo1.bcg
  have hb_mo_lz := smo1.blz
  have hb_mo_ty := smo1.bty
  have hb_mo_he := smo1.bhe
  have hb_mo_cn := smo1.bcn
  have hb_mo_n := smo1.bn
  have hb_mo_mn := smo1.bmn
  change q_W _ _ _ _ _ _ _ _ 9 [.ref (215), .int (xid)] [.int (z_b (x_th n al xid))] _
  refine q_if_eq 27 dX11_attackerCount_9 (by decide) (fun b9 => ?_) (fun b9 => ?_)
  · have b9 := z_b0n b9
    have fb9 : x_pl n al xid = 0 := z_nth b9
    refine q_iconst (v := 0) dX11_attackerCount_27 rfl ?_
    have hE : x_mo_attackerCount al n xid = (0, (if x_th n al xid then 0 else 1)) := by simp only [x_mo_attackerCount, if_neg b9]
    rw [hE]
    exact q_ireturn dX11_attackerCount_28 rfl rfl (by omega) (by omega) ⟨rfl, smo1, p1⟩
  · have b9 := z_b1 b9
    have fb9 : 0 < x_pl n al xid := z_th b9
    refine q_aload_n (by first | assumption | omega | decide | (rw [q_R0e]; omega)) dX11_attackerCount_12 rfl ?_
    refine q_aload_n (by first | assumption | omega | decide | (rw [q_R0e]; omega)) dX11_attackerCount_13 rfl ?_
    refine q_iload_n dX11_attackerCount_14 rfl ?_
    have g2 : x_pl n al xid ≤ n := x_pl_le
    refine q_invV (mc' := 0) (ms' := 0) (d' := d - 1) (as := [.int (xid)]) dX11_attackerCount_15 kM_X11_place kL_X11_57 kI_X11_place kS_X11_place rfl (kC_X11.1) smo1.c0 rfl rfl (Nat.le_of_ble_eq_true rfl) (by omega) (by decide) (by omega) (by omega) (e_placeP (d := d - 1) smo1 xid (by omega) (by omega)) (q_kR ?_) q_xR
    change q_W _ _ _ _ _ _ _ _ 18 [.ref (215), .int (xid)] [.int (nI (x_pl n al xid - 1)), .ref (215)] _
    refine q_invV (mc' := 0) (ms' := 0) (d' := d - 1) (as := [.int (nI (x_pl n al xid - 1))]) dX11_attackerCount_18 kM_X11_attackers kL_X11_80 kI_X11_attackers kS_X11_attackers rfl (kC_X11.1) smo1.c0 rfl rfl (Nat.le_of_ble_eq_true rfl) (by omega) (by decide) (by omega) (by omega) (e_mo_attackers (d := d - 1) smo1 (x_pl n al xid - 1) (by omega) (by omega)) (q_kR ?_) q_xR
    change q_W _ _ _ _ _ _ _ _ 21 [.ref (215), .int (xid)] [.int (x_mo_attackers al n (x_pl n al xid - 1))] _
    refine q_invS (mc' := 0) (ms' := 0) (d' := d - 1) (as := [.int (x_mo_attackers al n (x_pl n al xid - 1))]) dX11_attackerCount_21 kM_X11_size kL_X11_68 kT_X11_size rfl rfl rfl (Nat.le_of_ble_eq_true rfl) (by omega) (by decide) (by omega) (by omega) (e_mo_size (d := d - 1) (x_mo_attackers al n (x_pl n al xid - 1)) (by omega)) (q_kR ?_) q_xR
    change q_W _ _ _ _ _ _ _ _ 24 [.ref (215), .int (xid)] [.int (x_mo_size (x_mo_attackers al n (x_pl n al xid - 1)))] _
    refine q_goto 28 dX11_attackerCount_24 (by decide) ?_
    have hE : x_mo_attackerCount al n xid = (x_mo_size (x_mo_attackers al n (x_pl n al xid - 1)), (if x_th n al xid then 0 else 1)) := by simp only [x_mo_attackerCount, if_pos b9]
    rw [hE]
    exact q_ireturn dX11_attackerCount_28 rfl rfl (by omega) (by omega) ⟨rfl, smo1, p1⟩
def x_mo_areThere (al : Nat → Int32) (n : Nat) (xf : Int32) (xt : Int32) : (Bool) × (Int32) := (if x_th n al xf then (if x_th n al xt then (true, 0) else (false, 1)) else (false, 1))
set_option maxRecDepth 100000 in
set_option maxHeartbeats 8000000 in
theorem e_mo_areThere {g : q_G} {h : q_H} {d : Nat} {th : Int32} {al : Nat → Int32} {cg : Nat} {sv : Bool} {rs : Int32} {ac : Int32} {rj : Int32} {ro : Nat → Int32} {ad : Nat → Int32} {bf : Nat → Int32} {ln : Nat → Int32} {lz : Nat} {ip : Nat → Int32} {ty : Nat} {he : Nat} {er : Int32} {ea : Int32} {fa : Int32} {cm : Nat → Int32} {cn : Nat} {n : Nat} {mn : Nat} (smo : z_Mo h 215 th al cg sv rs ac rj ro ad bf ln lz ip ty he er ea fa cm cn n mn)  (xf : Int32) (xt : Int32)   (hd : 3 ≤ d) : q_Spec g mX11_areThere d 0 0 [.ref (215), .int (xf), .int (xt)] h (q_chg (.inl (some (.int (z_b (x_mo_areThere al n xf xt).1)))) (fun h1 => z_Mo h1 215 ((x_mo_areThere al n xf xt).2) al cg sv rs ac rj ro ad bf ln lz ip ty he er ea fa cm cn n mn ∧ q_same h h1 215 8)) := by
  have hb_mo_cg := smo.bcg
  have hb_mo_lz := smo.blz
  have hb_mo_ty := smo.bty
  have hb_mo_he := smo.bhe
  have hb_mo_cn := smo.bcn
  have hb_mo_n := smo.bn
  have hb_mo_mn := smo.bmn
  have ho_mo_cg := smo.bcg
  have ho_mo_lz := smo.blz
  have ho_mo_ty := smo.bty
  have ho_mo_he := smo.bhe
  have ho_mo_cn := smo.bcn
  have ho_mo_n := smo.bn
  have ho_mo_mn := smo.bmn
  have p0 : q_same h h 215 8 := q_same.rfl'
  refine q_enter (by decide +kernel) rfl rfl (Nat.le_of_ble_eq_true rfl) (fun hz => ?_)
  change q_W _ _ _ _ _ _ _ _ _ [.ref (215), .int (xf), .int (xt)] [] _
  refine q_aload_n (by first | assumption | omega | decide | (rw [q_R0e]; omega)) dX11_areThere_0 rfl ?_
  refine q_aload_n (by first | assumption | omega | decide | (rw [q_R0e]; omega)) dX11_areThere_1 rfl ?_
  refine q_iload_n dX11_areThere_2 rfl ?_
  refine q_invV (mc' := 0) (ms' := 0) (d' := d - 1) (as := [.int (xf)]) dX11_areThere_3 kM_X11_isThere kL_X11_141 kI_X11_isThere kS_X11_isThere rfl (kC_X11.1) smo.c0 rfl rfl (Nat.le_of_ble_eq_true rfl) (by omega) (by decide) (by omega) (by omega) (e_isThere (d := d - 1) smo xf (by omega)) (q_kR ?_) q_xR
  change q_W _ _ _ _ _ _ _ _ 6 [.ref (215), .int (xf), .int (xt)] [.int (z_b (x_th n al xf)), .ref (215)] _
  refine q_if_eq 21 dX11_areThere_6 (by decide) (fun b6 => ?_) (fun b6 => ?_)
  · have b6 := z_b0n b6
    have fb6 : x_pl n al xf = 0 := z_nth b6
    refine q_iconst (v := 0) dX11_areThere_21 rfl ?_
    refine q_invV (mc' := 0) (ms' := 0) (d' := d - 1) (as := [.int (0)]) dX11_areThere_22 kM_X11_isFine kL_X11_181 kI_X11_isFine kS_X11_isFine rfl (kC_X11.1) smo.c0 rfl rfl (Nat.le_of_ble_eq_true rfl) (by omega) (by decide) (by omega) (by omega) (e_isFine (d := d - 1) smo (xb := false) (by omega)) (q_kC (fun h1 hB => ?_)) q_xC
    obtain ⟨t1_0, pp1⟩ := hB
    have smo1 : z_Mo h1 215 1 al cg sv rs ac rj ro ad bf ln lz ip ty he er ea fa cm cn n mn := t1_0
    have p1 := p0.trans (pp1.wide (by omega) (by omega))
    have hb_mo_cg := smo1.bcg
    have hb_mo_lz := smo1.blz
    have hb_mo_ty := smo1.bty
    have hb_mo_he := smo1.bhe
    have hb_mo_cn := smo1.bcn
    have hb_mo_n := smo1.bn
    have hb_mo_mn := smo1.bmn
    change q_W _ _ _ _ _ _ _ _ 25 [.ref (215), .int (xf), .int (xt)] [.int (0)] _
    have hE : x_mo_areThere al n xf xt = (false, 1) := by simp only [x_mo_areThere, if_neg b6]
    rw [hE]
    exact q_ireturn dX11_areThere_25 rfl rfl (by omega) (by omega) ⟨rfl, smo1, p1⟩
  · have b6 := z_b1 b6
    have fb6 : 0 < x_pl n al xf := z_th b6
    refine q_aload_n (by first | assumption | omega | decide | (rw [q_R0e]; omega)) dX11_areThere_9 rfl ?_
    refine q_iload_n dX11_areThere_10 rfl ?_
    refine q_invV (mc' := 0) (ms' := 0) (d' := d - 1) (as := [.int (xt)]) dX11_areThere_11 kM_X11_isThere kL_X11_141 kI_X11_isThere kS_X11_isThere rfl (kC_X11.1) smo.c0 rfl rfl (Nat.le_of_ble_eq_true rfl) (by omega) (by decide) (by omega) (by omega) (e_isThere (d := d - 1) smo xt (by omega)) (q_kR ?_) q_xR
    change q_W _ _ _ _ _ _ _ _ 14 [.ref (215), .int (xf), .int (xt)] [.int (z_b (x_th n al xt)), .ref (215)] _
    refine q_if_eq 21 dX11_areThere_14 (by decide) (fun b14 => ?_) (fun b14 => ?_)
    · have b14 := z_b0n b14
      have fb14 : x_pl n al xt = 0 := z_nth b14
      refine q_iconst (v := 0) dX11_areThere_21 rfl ?_
      refine q_invV (mc' := 0) (ms' := 0) (d' := d - 1) (as := [.int (0)]) dX11_areThere_22 kM_X11_isFine kL_X11_181 kI_X11_isFine kS_X11_isFine rfl (kC_X11.1) smo.c0 rfl rfl (Nat.le_of_ble_eq_true rfl) (by omega) (by decide) (by omega) (by omega) (e_isFine (d := d - 1) smo (xb := false) (by omega)) (q_kC (fun h2 hB => ?_)) q_xC
      obtain ⟨t2_0, pp2⟩ := hB
      have smo2 : z_Mo h2 215 1 al cg sv rs ac rj ro ad bf ln lz ip ty he er ea fa cm cn n mn := t2_0
      have p2 := p0.trans (pp2.wide (by omega) (by omega))
      have hb_mo_cg := smo2.bcg
      have hb_mo_lz := smo2.blz
      have hb_mo_ty := smo2.bty
      have hb_mo_he := smo2.bhe
      have hb_mo_cn := smo2.bcn
      have hb_mo_n := smo2.bn
      have hb_mo_mn := smo2.bmn
      change q_W _ _ _ _ _ _ _ _ 25 [.ref (215), .int (xf), .int (xt)] [.int (0)] _
      have hE : x_mo_areThere al n xf xt = (false, 1) := by simp only [x_mo_areThere, if_pos b6, if_neg b14]
      rw [hE]
      exact q_ireturn dX11_areThere_25 rfl rfl (by omega) (by omega) ⟨rfl, smo2, p2⟩
    · have b14 := z_b1 b14
      have fb14 : 0 < x_pl n al xt := z_th b14
      refine q_iconst (v := 1) dX11_areThere_17 rfl ?_
      refine q_goto 22 dX11_areThere_18 (by decide) ?_
      refine q_invV (mc' := 0) (ms' := 0) (d' := d - 1) (as := [.int (1)]) dX11_areThere_22 kM_X11_isFine kL_X11_181 kI_X11_isFine kS_X11_isFine rfl (kC_X11.1) smo.c0 rfl rfl (Nat.le_of_ble_eq_true rfl) (by omega) (by decide) (by omega) (by omega) (e_isFine (d := d - 1) smo (xb := true) (by omega)) (q_kC (fun h3 hB => ?_)) q_xC
      obtain ⟨t3_0, pp3⟩ := hB
      have smo3 : z_Mo h3 215 0 al cg sv rs ac rj ro ad bf ln lz ip ty he er ea fa cm cn n mn := t3_0
      have p3 := p0.trans (pp3.wide (by omega) (by omega))
      have hb_mo_cg := smo3.bcg
      have hb_mo_lz := smo3.blz
      have hb_mo_ty := smo3.bty
      have hb_mo_he := smo3.bhe
      have hb_mo_cn := smo3.bcn
      have hb_mo_n := smo3.bn
      have hb_mo_mn := smo3.bmn
      change q_W _ _ _ _ _ _ _ _ 25 [.ref (215), .int (xf), .int (xt)] [.int (1)] _
      have hE : x_mo_areThere al n xf xt = (true, 0) := by simp only [x_mo_areThere, if_pos b6, if_pos b14]
      rw [hE]
      exact q_ireturn dX11_areThere_25 rfl rfl (by omega) (by omega) ⟨rfl, smo3, p3⟩
def x_ath (n : Nat) (al : Nat → Int32) (xf xt : Int32) : Bool := x_th n al xf && x_th n al xt
theorem z_ath {n : Nat} {al : Nat → Int32} {xf xt : Int32} (h : x_ath n al xf xt = true) : 0 < x_pl n al xf ∧ 0 < x_pl n al xt := by
  unfold x_ath at h
  rw [Bool.and_eq_true] at h
  exact ⟨z_th h.1, z_th h.2⟩
theorem e_areThere {g : q_G} {h : q_H} {d : Nat} {th : Int32} {al : Nat → Int32} {cg : Nat} {sv : Bool} {rs : Int32} {ac : Int32} {rj : Int32} {ro : Nat → Int32} {ad : Nat → Int32} {bf : Nat → Int32} {ln : Nat → Int32} {lz : Nat} {ip : Nat → Int32} {ty : Nat} {he : Nat} {er : Int32} {ea : Int32} {fa : Int32} {cm : Nat → Int32} {cn : Nat} {n : Nat} {mn : Nat} (smo : z_Mo h 215 th al cg sv rs ac rj ro ad bf ln lz ip ty he er ea fa cm cn n mn) (xf xt : Int32) (hd : 3 ≤ d) : q_Spec g mX11_areThere d 0 0 [.ref 215, .int xf, .int xt] h (q_chg (.inl (some (.int (z_b (x_ath n al xf xt))))) (fun h1 => z_Mo h1 215 (if x_ath n al xf xt then 0 else 1) al cg sv rs ac rj ro ad bf ln lz ip ty he er ea fa cm cn n mn ∧ q_same h h1 215 8)) := by
  have e := e_mo_areThere (g := g) (d := d) smo xf xt (by omega)
  rw [show x_mo_areThere al n xf xt = (x_ath n al xf xt, if x_ath n al xf xt then 0 else 1) by
    unfold x_mo_areThere x_ath
    cases x_th n al xf <;> cases x_th n al xt <;> rfl] at e
  exact e
def x_mo_hasAttack (al : Nat → Int32) (n : Nat) (xf : Int32) (xt : Int32) : (Bool) × (Int32) := (if x_ath n al xf xt then (if x_mo_isAttack al (x_pl n al xf - 1) (x_pl n al xt - 1) then (true, (if x_ath n al xf xt then 0 else 1)) else (false, (if x_ath n al xf xt then 0 else 1))) else (false, (if x_ath n al xf xt then 0 else 1)))
set_option maxRecDepth 100000 in
set_option maxHeartbeats 8000000 in
theorem e_mo_hasAttack {g : q_G} {h : q_H} {d : Nat} {th : Int32} {al : Nat → Int32} {cg : Nat} {sv : Bool} {rs : Int32} {ac : Int32} {rj : Int32} {ro : Nat → Int32} {ad : Nat → Int32} {bf : Nat → Int32} {ln : Nat → Int32} {lz : Nat} {ip : Nat → Int32} {ty : Nat} {he : Nat} {er : Int32} {ea : Int32} {fa : Int32} {cm : Nat → Int32} {cn : Nat} {n : Nat} {mn : Nat} (smo : z_Mo h 215 th al cg sv rs ac rj ro ad bf ln lz ip ty he er ea fa cm cn n mn)  (xf : Int32) (xt : Int32)   (hd : 4 ≤ d) : q_Spec g mX11_hasAttack d 0 0 [.ref (215), .int (xf), .int (xt)] h (q_chg (.inl (some (.int (z_b (x_mo_hasAttack al n xf xt).1)))) (fun h1 => z_Mo h1 215 ((x_mo_hasAttack al n xf xt).2) al cg sv rs ac rj ro ad bf ln lz ip ty he er ea fa cm cn n mn ∧ q_same h h1 215 8)) := by
  have hb_mo_cg := smo.bcg
  have hb_mo_lz := smo.blz
  have hb_mo_ty := smo.bty
  have hb_mo_he := smo.bhe
  have hb_mo_cn := smo.bcn
  have hb_mo_n := smo.bn
  have hb_mo_mn := smo.bmn
  have ho_mo_cg := smo.bcg
  have ho_mo_lz := smo.blz
  have ho_mo_ty := smo.bty
  have ho_mo_he := smo.bhe
  have ho_mo_cn := smo.bcn
  have ho_mo_n := smo.bn
  have ho_mo_mn := smo.bmn
  have p0 : q_same h h 215 8 := q_same.rfl'
  refine q_enter (by decide +kernel) rfl rfl (Nat.le_of_ble_eq_true rfl) (fun hz => ?_)
  change q_W _ _ _ _ _ _ _ _ _ [.ref (215), .int (xf), .int (xt)] [] _
  refine q_aload_n (by first | assumption | omega | decide | (rw [q_R0e]; omega)) dX11_hasAttack_0 rfl ?_
  refine q_iload_n dX11_hasAttack_1 rfl ?_
  refine q_iload_n dX11_hasAttack_2 rfl ?_
  refine q_invV (mc' := 0) (ms' := 0) (d' := d - 1) (as := [.int (xf), .int (xt)]) dX11_hasAttack_3 kM_X11_areThere kL_X11_188 kI_X11_areThere kS_X11_areThere rfl (kC_X11.1) smo.c0 rfl rfl (Nat.le_of_ble_eq_true rfl) (by omega) (by decide) (by omega) (by omega) (e_areThere (d := d - 1) smo xf xt (by omega)) (q_kC (fun h1 hB => ?_)) q_xC
  obtain ⟨t1_0, pp1⟩ := hB
  have smo1 : z_Mo h1 215 (if x_ath n al xf xt then 0 else 1) al cg sv rs ac rj ro ad bf ln lz ip ty he er ea fa cm cn n mn := t1_0
  have p1 := p0.trans (pp1.wide (by omega) (by omega))
  have hb_mo_cg := smo1.bcg
  have hb_mo_lz := smo1.blz
  have hb_mo_ty := smo1.bty
  have hb_mo_he := smo1.bhe
  have hb_mo_cn := smo1.bcn
  have hb_mo_n := smo1.bn
  have hb_mo_mn := smo1.bmn
  change q_W _ _ _ _ _ _ _ _ 6 [.ref (215), .int (xf), .int (xt)] [.int (z_b (x_ath n al xf xt))] _
  refine q_if_eq 30 dX11_hasAttack_6 (by decide) (fun b6 => ?_) (fun b6 => ?_)
  · have b6 := z_b0n b6
    have fb6 : True := trivial
    refine q_iconst (v := 0) dX11_hasAttack_30 rfl ?_
    have hE : x_mo_hasAttack al n xf xt = (false, (if x_ath n al xf xt then 0 else 1)) := by simp only [x_mo_hasAttack, if_neg b6]
    rw [hE]
    exact q_ireturn dX11_hasAttack_31 rfl rfl (by omega) (by omega) ⟨rfl, smo1, p1⟩
  · have b6 := z_b1 b6
    have fb6 : 0 < x_pl n al xf ∧ 0 < x_pl n al xt := z_ath b6
    refine q_aload_n (by first | assumption | omega | decide | (rw [q_R0e]; omega)) dX11_hasAttack_9 rfl ?_
    refine q_aload_n (by first | assumption | omega | decide | (rw [q_R0e]; omega)) dX11_hasAttack_10 rfl ?_
    refine q_iload_n dX11_hasAttack_11 rfl ?_
    have g2 : 0 < x_pl n al xf := fb6.1
    have g3 : x_pl n al xf ≤ n := x_pl_le
    refine q_invV (mc' := 0) (ms' := 0) (d' := d - 1) (as := [.int (xf)]) dX11_hasAttack_12 kM_X11_place kL_X11_57 kI_X11_place kS_X11_place rfl (kC_X11.1) smo1.c0 rfl rfl (Nat.le_of_ble_eq_true rfl) (by omega) (by decide) (by omega) (by omega) (e_placeP (d := d - 1) smo1 xf (by omega) (by omega)) (q_kR ?_) q_xR
    change q_W _ _ _ _ _ _ _ _ 15 [.ref (215), .int (xf), .int (xt)] [.int (nI (x_pl n al xf - 1)), .ref (215)] _
    refine q_aload_n (by first | assumption | omega | decide | (rw [q_R0e]; omega)) dX11_hasAttack_15 rfl ?_
    refine q_iload_n dX11_hasAttack_16 rfl ?_
    have g4 : 0 < x_pl n al xt := fb6.2
    have g5 : x_pl n al xt ≤ n := x_pl_le
    refine q_invV (mc' := 0) (ms' := 0) (d' := d - 1) (as := [.int (xt)]) dX11_hasAttack_17 kM_X11_place kL_X11_57 kI_X11_place kS_X11_place rfl (kC_X11.1) smo1.c0 rfl rfl (Nat.le_of_ble_eq_true rfl) (by omega) (by decide) (by omega) (by omega) (e_placeP (d := d - 1) smo1 xt (by omega) (by omega)) (q_kR ?_) q_xR
    change q_W _ _ _ _ _ _ _ _ 20 [.ref (215), .int (xf), .int (xt)] [.int (nI (x_pl n al xt - 1)), .int (nI (x_pl n al xf - 1)), .ref (215)] _
    refine q_invV (mc' := 0) (ms' := 0) (d' := d - 1) (as := [.int (nI (x_pl n al xf - 1)), .int (nI (x_pl n al xt - 1))]) dX11_hasAttack_20 kM_X11_isAttack kL_X11_61 kI_X11_isAttack kS_X11_isAttack rfl (kC_X11.1) smo1.c0 rfl rfl (Nat.le_of_ble_eq_true rfl) (by omega) (by decide) (by omega) (by omega) (e_mo_isAttack (d := d - 1) smo1 (x_pl n al xf - 1) (x_pl n al xt - 1) (by omega) (by omega) (by omega)) (q_kR ?_) q_xR
    change q_W _ _ _ _ _ _ _ _ 23 [.ref (215), .int (xf), .int (xt)] [.int (z_b (x_mo_isAttack al (x_pl n al xf - 1) (x_pl n al xt - 1)))] _
    refine q_if_eq 30 dX11_hasAttack_23 (by decide) (fun b23 => ?_) (fun b23 => ?_)
    · have b23 := z_b0n b23
      refine q_iconst (v := 0) dX11_hasAttack_30 rfl ?_
      have hE : x_mo_hasAttack al n xf xt = (false, (if x_ath n al xf xt then 0 else 1)) := by simp only [x_mo_hasAttack, if_pos b6, if_neg b23]
      rw [hE]
      exact q_ireturn dX11_hasAttack_31 rfl rfl (by omega) (by omega) ⟨rfl, smo1, p1⟩
    · have b23 := z_b1 b23
      refine q_iconst (v := 1) dX11_hasAttack_26 rfl ?_
      refine q_goto 31 dX11_hasAttack_27 (by decide) ?_
      have hE : x_mo_hasAttack al n xf xt = (true, (if x_ath n al xf xt then 0 else 1)) := by simp only [x_mo_hasAttack, if_pos b6, if_pos b23]
      rw [hE]
      exact q_ireturn dX11_hasAttack_31 rfl rfl (by omega) (by omega) ⟨rfl, smo1, p1⟩
def x_mo_isSuccessful (al : Nat → Int32) (n : Nat) (xf : Int32) (xt : Int32) : (Bool) × (Int32) := (if x_th n al xf then (if x_th n al xt then (if x_mo_isAttack al (x_pl n al xf - 1) (x_pl n al xt - 1) then (if x_mo_wins al (x_pl n al xf - 1) (x_pl n al xt - 1) then (true, 0) else (false, 0)) else (false, 1)) else (false, 1)) else (false, 1))
set_option maxRecDepth 100000 in
set_option maxHeartbeats 8000000 in
theorem e_mo_isSuccessful {g : q_G} {h : q_H} {d : Nat} {th : Int32} {al : Nat → Int32} {cg : Nat} {sv : Bool} {rs : Int32} {ac : Int32} {rj : Int32} {ro : Nat → Int32} {ad : Nat → Int32} {bf : Nat → Int32} {ln : Nat → Int32} {lz : Nat} {ip : Nat → Int32} {ty : Nat} {he : Nat} {er : Int32} {ea : Int32} {fa : Int32} {cm : Nat → Int32} {cn : Nat} {n : Nat} {mn : Nat} (smo : z_Mo h 215 th al cg sv rs ac rj ro ad bf ln lz ip ty he er ea fa cm cn n mn)  (xf : Int32) (xt : Int32)   (hd : 3 ≤ d) : q_Spec g mX11_isSuccessful d 0 0 [.ref (215), .int (xf), .int (xt)] h (q_chg (.inl (some (.int (z_b (x_mo_isSuccessful al n xf xt).1)))) (fun h1 => z_Mo h1 215 ((x_mo_isSuccessful al n xf xt).2) al cg sv rs ac rj ro ad bf ln lz ip ty he er ea fa cm cn n mn ∧ q_same h h1 215 8)) := by
  have hb_mo_cg := smo.bcg
  have hb_mo_lz := smo.blz
  have hb_mo_ty := smo.bty
  have hb_mo_he := smo.bhe
  have hb_mo_cn := smo.bcn
  have hb_mo_n := smo.bn
  have hb_mo_mn := smo.bmn
  have ho_mo_cg := smo.bcg
  have ho_mo_lz := smo.blz
  have ho_mo_ty := smo.bty
  have ho_mo_he := smo.bhe
  have ho_mo_cn := smo.bcn
  have ho_mo_n := smo.bn
  have ho_mo_mn := smo.bmn
  have p0 : q_same h h 215 8 := q_same.rfl'
  refine q_enter (by decide +kernel) rfl rfl (Nat.le_of_ble_eq_true rfl) (fun hz => ?_)
  change q_W _ _ _ _ _ _ _ _ _ [.ref (215), .int (xf), .int (xt)] [] _
  refine q_aload_n (by first | assumption | omega | decide | (rw [q_R0e]; omega)) dX11_isSuccessful_0 rfl ?_
  refine q_aload_n (by first | assumption | omega | decide | (rw [q_R0e]; omega)) dX11_isSuccessful_1 rfl ?_
  refine q_iload_n dX11_isSuccessful_2 rfl ?_
  refine q_invV (mc' := 0) (ms' := 0) (d' := d - 1) (as := [.int (xf)]) dX11_isSuccessful_3 kM_X11_isThere kL_X11_141 kI_X11_isThere kS_X11_isThere rfl (kC_X11.1) smo.c0 rfl rfl (Nat.le_of_ble_eq_true rfl) (by omega) (by decide) (by omega) (by omega) (e_isThere (d := d - 1) smo xf (by omega)) (q_kR ?_) q_xR
  change q_W _ _ _ _ _ _ _ _ 6 [.ref (215), .int (xf), .int (xt)] [.int (z_b (x_th n al xf)), .ref (215)] _
  refine q_if_eq 38 dX11_isSuccessful_6 (by decide) (fun b6 => ?_) (fun b6 => ?_)
  · have b6 := z_b0n b6
    have fb6 : x_pl n al xf = 0 := z_nth b6
    refine q_iconst (v := 0) dX11_isSuccessful_38 rfl ?_
    refine q_invV (mc' := 0) (ms' := 0) (d' := d - 1) (as := [.int (0)]) dX11_isSuccessful_39 kM_X11_isFine kL_X11_181 kI_X11_isFine kS_X11_isFine rfl (kC_X11.1) smo.c0 rfl rfl (Nat.le_of_ble_eq_true rfl) (by omega) (by decide) (by omega) (by omega) (e_isFine (d := d - 1) smo (xb := false) (by omega)) (q_kC (fun h1 hB => ?_)) q_xC
    obtain ⟨t1_0, pp1⟩ := hB
    have smo1 : z_Mo h1 215 1 al cg sv rs ac rj ro ad bf ln lz ip ty he er ea fa cm cn n mn := t1_0
    have p1 := p0.trans (pp1.wide (by omega) (by omega))
    have hb_mo_cg := smo1.bcg
    have hb_mo_lz := smo1.blz
    have hb_mo_ty := smo1.bty
    have hb_mo_he := smo1.bhe
    have hb_mo_cn := smo1.bcn
    have hb_mo_n := smo1.bn
    have hb_mo_mn := smo1.bmn
    change q_W _ _ _ _ _ _ _ _ 42 [.ref (215), .int (xf), .int (xt)] [.int (0)] _
    refine q_if_eq 66 dX11_isSuccessful_42 (by decide) (fun b42 => ?_) (fun b42 => ?_)
    · refine q_iconst (v := 0) dX11_isSuccessful_66 rfl ?_
      have hE : x_mo_isSuccessful al n xf xt = (false, 1) := by simp only [x_mo_isSuccessful, if_neg b6]
      rw [hE]
      exact q_ireturn dX11_isSuccessful_67 rfl rfl (by omega) (by omega) ⟨rfl, smo1, p1⟩
    · exact absurd (by decide) b42
  · have b6 := z_b1 b6
    have fb6 : 0 < x_pl n al xf := z_th b6
    refine q_aload_n (by first | assumption | omega | decide | (rw [q_R0e]; omega)) dX11_isSuccessful_9 rfl ?_
    refine q_iload_n dX11_isSuccessful_10 rfl ?_
    refine q_invV (mc' := 0) (ms' := 0) (d' := d - 1) (as := [.int (xt)]) dX11_isSuccessful_11 kM_X11_isThere kL_X11_141 kI_X11_isThere kS_X11_isThere rfl (kC_X11.1) smo.c0 rfl rfl (Nat.le_of_ble_eq_true rfl) (by omega) (by decide) (by omega) (by omega) (e_isThere (d := d - 1) smo xt (by omega)) (q_kR ?_) q_xR
    change q_W _ _ _ _ _ _ _ _ 14 [.ref (215), .int (xf), .int (xt)] [.int (z_b (x_th n al xt)), .ref (215)] _
    refine q_if_eq 38 dX11_isSuccessful_14 (by decide) (fun b14 => ?_) (fun b14 => ?_)
    · have b14 := z_b0n b14
      have fb14 : x_pl n al xt = 0 := z_nth b14
      refine q_iconst (v := 0) dX11_isSuccessful_38 rfl ?_
      refine q_invV (mc' := 0) (ms' := 0) (d' := d - 1) (as := [.int (0)]) dX11_isSuccessful_39 kM_X11_isFine kL_X11_181 kI_X11_isFine kS_X11_isFine rfl (kC_X11.1) smo.c0 rfl rfl (Nat.le_of_ble_eq_true rfl) (by omega) (by decide) (by omega) (by omega) (e_isFine (d := d - 1) smo (xb := false) (by omega)) (q_kC (fun h2 hB => ?_)) q_xC
      obtain ⟨t2_0, pp2⟩ := hB
      have smo2 : z_Mo h2 215 1 al cg sv rs ac rj ro ad bf ln lz ip ty he er ea fa cm cn n mn := t2_0
      have p2 := p0.trans (pp2.wide (by omega) (by omega))
      have hb_mo_cg := smo2.bcg
      have hb_mo_lz := smo2.blz
      have hb_mo_ty := smo2.bty
      have hb_mo_he := smo2.bhe
      have hb_mo_cn := smo2.bcn
      have hb_mo_n := smo2.bn
      have hb_mo_mn := smo2.bmn
      change q_W _ _ _ _ _ _ _ _ 42 [.ref (215), .int (xf), .int (xt)] [.int (0)] _
      refine q_if_eq 66 dX11_isSuccessful_42 (by decide) (fun b42 => ?_) (fun b42 => ?_)
      · refine q_iconst (v := 0) dX11_isSuccessful_66 rfl ?_
        have hE : x_mo_isSuccessful al n xf xt = (false, 1) := by simp only [x_mo_isSuccessful, if_pos b6, if_neg b14]
        rw [hE]
        exact q_ireturn dX11_isSuccessful_67 rfl rfl (by omega) (by omega) ⟨rfl, smo2, p2⟩
      · exact absurd (by decide) b42
    · have b14 := z_b1 b14
      have fb14 : 0 < x_pl n al xt := z_th b14
      refine q_aload_n (by first | assumption | omega | decide | (rw [q_R0e]; omega)) dX11_isSuccessful_17 rfl ?_
      refine q_aload_n (by first | assumption | omega | decide | (rw [q_R0e]; omega)) dX11_isSuccessful_18 rfl ?_
      refine q_iload_n dX11_isSuccessful_19 rfl ?_
      have g3 : x_pl n al xf ≤ n := x_pl_le
      refine q_invV (mc' := 0) (ms' := 0) (d' := d - 1) (as := [.int (xf)]) dX11_isSuccessful_20 kM_X11_place kL_X11_57 kI_X11_place kS_X11_place rfl (kC_X11.1) smo.c0 rfl rfl (Nat.le_of_ble_eq_true rfl) (by omega) (by decide) (by omega) (by omega) (e_placeP (d := d - 1) smo xf (by omega) (by omega)) (q_kR ?_) q_xR
      change q_W _ _ _ _ _ _ _ _ 23 [.ref (215), .int (xf), .int (xt)] [.int (nI (x_pl n al xf - 1)), .ref (215), .ref (215)] _
      refine q_aload_n (by first | assumption | omega | decide | (rw [q_R0e]; omega)) dX11_isSuccessful_23 rfl ?_
      refine q_iload_n dX11_isSuccessful_24 rfl ?_
      have g4 : x_pl n al xt ≤ n := x_pl_le
      refine q_invV (mc' := 0) (ms' := 0) (d' := d - 1) (as := [.int (xt)]) dX11_isSuccessful_25 kM_X11_place kL_X11_57 kI_X11_place kS_X11_place rfl (kC_X11.1) smo.c0 rfl rfl (Nat.le_of_ble_eq_true rfl) (by omega) (by decide) (by omega) (by omega) (e_placeP (d := d - 1) smo xt (by omega) (by omega)) (q_kR ?_) q_xR
      change q_W _ _ _ _ _ _ _ _ 28 [.ref (215), .int (xf), .int (xt)] [.int (nI (x_pl n al xt - 1)), .int (nI (x_pl n al xf - 1)), .ref (215), .ref (215)] _
      refine q_invV (mc' := 0) (ms' := 0) (d' := d - 1) (as := [.int (nI (x_pl n al xf - 1)), .int (nI (x_pl n al xt - 1))]) dX11_isSuccessful_28 kM_X11_isAttack kL_X11_61 kI_X11_isAttack kS_X11_isAttack rfl (kC_X11.1) smo.c0 rfl rfl (Nat.le_of_ble_eq_true rfl) (by omega) (by decide) (by omega) (by omega) (e_mo_isAttack (d := d - 1) smo (x_pl n al xf - 1) (x_pl n al xt - 1) (by omega) (by omega) (by omega)) (q_kR ?_) q_xR
      change q_W _ _ _ _ _ _ _ _ 31 [.ref (215), .int (xf), .int (xt)] [.int (z_b (x_mo_isAttack al (x_pl n al xf - 1) (x_pl n al xt - 1))), .ref (215)] _
      refine q_if_eq 38 dX11_isSuccessful_31 (by decide) (fun b31 => ?_) (fun b31 => ?_)
      · have b31 := z_b0n b31
        refine q_iconst (v := 0) dX11_isSuccessful_38 rfl ?_
        refine q_invV (mc' := 0) (ms' := 0) (d' := d - 1) (as := [.int (0)]) dX11_isSuccessful_39 kM_X11_isFine kL_X11_181 kI_X11_isFine kS_X11_isFine rfl (kC_X11.1) smo.c0 rfl rfl (Nat.le_of_ble_eq_true rfl) (by omega) (by decide) (by omega) (by omega) (e_isFine (d := d - 1) smo (xb := false) (by omega)) (q_kC (fun h5 hB => ?_)) q_xC
        obtain ⟨t5_0, pp5⟩ := hB
        have smo5 : z_Mo h5 215 1 al cg sv rs ac rj ro ad bf ln lz ip ty he er ea fa cm cn n mn := t5_0
        have p5 := p0.trans (pp5.wide (by omega) (by omega))
        have hb_mo_cg := smo5.bcg
        have hb_mo_lz := smo5.blz
        have hb_mo_ty := smo5.bty
        have hb_mo_he := smo5.bhe
        have hb_mo_cn := smo5.bcn
        have hb_mo_n := smo5.bn
        have hb_mo_mn := smo5.bmn
        change q_W _ _ _ _ _ _ _ _ 42 [.ref (215), .int (xf), .int (xt)] [.int (0)] _
        refine q_if_eq 66 dX11_isSuccessful_42 (by decide) (fun b42 => ?_) (fun b42 => ?_)
        · refine q_iconst (v := 0) dX11_isSuccessful_66 rfl ?_
          have hE : x_mo_isSuccessful al n xf xt = (false, 1) := by simp only [x_mo_isSuccessful, if_pos b6, if_pos b14, if_neg b31]
          rw [hE]
          exact q_ireturn dX11_isSuccessful_67 rfl rfl (by omega) (by omega) ⟨rfl, smo5, p5⟩
        · exact absurd (by decide) b42
      · have b31 := z_b1 b31
        refine q_iconst (v := 1) dX11_isSuccessful_34 rfl ?_
        refine q_goto 39 dX11_isSuccessful_35 (by decide) ?_
        refine q_invV (mc' := 0) (ms' := 0) (d' := d - 1) (as := [.int (1)]) dX11_isSuccessful_39 kM_X11_isFine kL_X11_181 kI_X11_isFine kS_X11_isFine rfl (kC_X11.1) smo.c0 rfl rfl (Nat.le_of_ble_eq_true rfl) (by omega) (by decide) (by omega) (by omega) (e_isFine (d := d - 1) smo (xb := true) (by omega)) (q_kC (fun h6 hB => ?_)) q_xC
        obtain ⟨t6_0, pp6⟩ := hB
        have smo6 : z_Mo h6 215 0 al cg sv rs ac rj ro ad bf ln lz ip ty he er ea fa cm cn n mn := t6_0
        have p6 := p0.trans (pp6.wide (by omega) (by omega))
        have hb_mo_cg := smo6.bcg
        have hb_mo_lz := smo6.blz
        have hb_mo_ty := smo6.bty
        have hb_mo_he := smo6.bhe
        have hb_mo_cn := smo6.bcn
        have hb_mo_n := smo6.bn
        have hb_mo_mn := smo6.bmn
        change q_W _ _ _ _ _ _ _ _ 42 [.ref (215), .int (xf), .int (xt)] [.int (1)] _
        refine q_if_eq 66 dX11_isSuccessful_42 (by decide) (fun b42 => ?_) (fun b42 => ?_)
        · exact absurd b42 (by decide)
        · refine q_aload_n (by first | assumption | omega | decide | (rw [q_R0e]; omega)) dX11_isSuccessful_45 rfl ?_
          refine q_aload_n (by first | assumption | omega | decide | (rw [q_R0e]; omega)) dX11_isSuccessful_46 rfl ?_
          refine q_iload_n dX11_isSuccessful_47 rfl ?_
          have g7 : x_pl n al xf ≤ n := x_pl_le
          refine q_invV (mc' := 0) (ms' := 0) (d' := d - 1) (as := [.int (xf)]) dX11_isSuccessful_48 kM_X11_place kL_X11_57 kI_X11_place kS_X11_place rfl (kC_X11.1) smo6.c0 rfl rfl (Nat.le_of_ble_eq_true rfl) (by omega) (by decide) (by omega) (by omega) (e_placeP (d := d - 1) smo6 xf (by omega) (by omega)) (q_kR ?_) q_xR
          change q_W _ _ _ _ _ _ _ _ 51 [.ref (215), .int (xf), .int (xt)] [.int (nI (x_pl n al xf - 1)), .ref (215)] _
          refine q_aload_n (by first | assumption | omega | decide | (rw [q_R0e]; omega)) dX11_isSuccessful_51 rfl ?_
          refine q_iload_n dX11_isSuccessful_52 rfl ?_
          have g8 : x_pl n al xt ≤ n := x_pl_le
          refine q_invV (mc' := 0) (ms' := 0) (d' := d - 1) (as := [.int (xt)]) dX11_isSuccessful_53 kM_X11_place kL_X11_57 kI_X11_place kS_X11_place rfl (kC_X11.1) smo6.c0 rfl rfl (Nat.le_of_ble_eq_true rfl) (by omega) (by decide) (by omega) (by omega) (e_placeP (d := d - 1) smo6 xt (by omega) (by omega)) (q_kR ?_) q_xR
          change q_W _ _ _ _ _ _ _ _ 56 [.ref (215), .int (xf), .int (xt)] [.int (nI (x_pl n al xt - 1)), .int (nI (x_pl n al xf - 1)), .ref (215)] _
          refine q_invV (mc' := 0) (ms' := 0) (d' := d - 1) (as := [.int (nI (x_pl n al xf - 1)), .int (nI (x_pl n al xt - 1))]) dX11_isSuccessful_56 kM_X11_wins kL_X11_71 kI_X11_wins kS_X11_wins rfl (kC_X11.1) smo6.c0 rfl rfl (Nat.le_of_ble_eq_true rfl) (by omega) (by decide) (by omega) (by omega) (e_mo_wins (d := d - 1) smo6 (x_pl n al xf - 1) (x_pl n al xt - 1) (by omega) (by omega) (by omega)) (q_kR ?_) q_xR
          change q_W _ _ _ _ _ _ _ _ 59 [.ref (215), .int (xf), .int (xt)] [.int (z_b (x_mo_wins al (x_pl n al xf - 1) (x_pl n al xt - 1)))] _
          refine q_if_eq 66 dX11_isSuccessful_59 (by decide) (fun b59 => ?_) (fun b59 => ?_)
          · have b59 := z_b0n b59
            refine q_iconst (v := 0) dX11_isSuccessful_66 rfl ?_
            have hE : x_mo_isSuccessful al n xf xt = (false, 0) := by simp only [x_mo_isSuccessful, if_pos b6, if_pos b14, if_pos b31, if_neg b59]
            rw [hE]
            exact q_ireturn dX11_isSuccessful_67 rfl rfl (by omega) (by omega) ⟨rfl, smo6, p6⟩
          · have b59 := z_b1 b59
            refine q_iconst (v := 1) dX11_isSuccessful_62 rfl ?_
            refine q_goto 67 dX11_isSuccessful_63 (by decide) ?_
            have hE : x_mo_isSuccessful al n xf xt = (true, 0) := by simp only [x_mo_isSuccessful, if_pos b6, if_pos b14, if_pos b31, if_pos b59]
            rw [hE]
            exact q_ireturn dX11_isSuccessful_67 rfl rfl (by omega) (by omega) ⟨rfl, smo6, p6⟩
def x_mo_attackerAt_30 (al : Nat → Int32) (n : Nat) (xid : Int32) (xp : Int32) : Nat → Nat → (Int32) → (Unit) ⊕ ((Int32) × (Int32))
  | 0, _, _ => .inl ()
  | r + 1, k, c30_4 => (if (((x_mo_attackers al n (x_pl n al xid - 1)) >>> ((nI (k)) &&& 31)) &&& (1 : Int32)) = (1) then (if (c30_4) = (xp) then .inr (al (7 + 3 * k + 0), (if x_th n al xid then 0 else 1)) else x_mo_attackerAt_30 al n xid xp r (k + 1) (c30_4 + (1 : Int32))) else x_mo_attackerAt_30 al n xid xp r (k + 1) (c30_4 + (0 : Int32)))
set_option maxRecDepth 100000 in
set_option maxHeartbeats 8000000 in
theorem l_mo_attackerAt_30 {g : q_G} {h h1 : q_H} {d mc ms kc ks : Nat} {Q : q_O → q_H → Prop} {al : Nat → Int32} {cg : Nat} {sv : Bool} {rs : Int32} {ac : Int32} {rj : Int32} {ro : Nat → Int32} {ad : Nat → Int32} {bf : Nat → Int32} {ln : Nat → Int32} {lz : Nat} {ip : Nat → Int32} {ty : Nat} {he : Nat} {er : Int32} {ea : Int32} {fa : Int32} {cm : Nat → Int32} {cn : Nat} {n : Nat} {mn : Nat} {xid : Int32} {xp : Int32} (smo1 : z_Mo h1 215 (if x_th n al xid then 0 else 1) al cg sv rs ac rj ro ad bf ln lz ip ty he er ea fa cm cn n mn) (p1 : q_same h h1 215 8)  (ho_mo_cg : cg ≤ 8) (ho_mo_lz : lz ≤ 160) (ho_mo_ty : ty ≤ 60) (ho_mo_he : he ≤ 60) (ho_mo_cn : cn ≤ 61) (ho_mo_n : n ≤ 8) (ho_mo_mn : mn ≤ 12) (fb9 : 0 < x_pl n al xid) (g2 : x_pl n al xid ≤ n)  (hd : 1 ≤ d) (hkc : kc + 0 ≤ mc) (hks : ks + 0 ≤ ms) : ∀ (r k : Nat) (c30_4 : Int32) (hk_30 : k + r = n) (K : ∀ (_ : Unit), x_mo_attackerAt_30 al n xid xp r k c30_4 = .inl () → q_W g mX11_attackerAt d mc ms Q kc ks 98 [.ref (215), q_u, q_u, q_u, q_u, q_u, q_u] [] h1) (K2 : ∀ z, x_mo_attackerAt_30 al n xid xp r k c30_4 = .inr z → ∀ o h1, q_chg (.inl (some (.int z.1))) (fun h1 => z_Mo h1 215 z.2 al cg sv rs ac rj ro ad bf ln lz ip ty he er ea fa cm cn n mn ∧ q_same h h1 215 8) o h1 → Q o h1), q_W g mX11_attackerAt d mc ms Q kc ks 30 [.ref (215), q_u, .int (xp), .int (x_mo_attackers al n (x_pl n al xid - 1)), .int (c30_4), .int (nI (k)), q_u] [] h1 := by
  intro r
  induction r with
  | zero =>
    intro k c30_4  hk_30 K K2
    have hb_mo_cg := smo1.bcg
    have hb_mo_lz := smo1.blz
    have hb_mo_ty := smo1.bty
    have hb_mo_he := smo1.bhe
    have hb_mo_cn := smo1.bcn
    have hb_mo_n := smo1.bn
    have hb_mo_mn := smo1.bmn
    refine q_iload dX11_attackerAt_30 rfl ?_
    refine q_aload_n (by first | assumption | omega | decide | (rw [q_R0e]; omega)) dX11_attackerAt_32 rfl ?_
    refine q_getf (k := 1) (v := .ref (216)) kC_X11 kL_X11_9 rfl (by decide) dX11_attackerAt_33 smo1.c0 rfl ?_
    refine q_iconst (v := 0) dX11_attackerAt_36 rfl ?_
    refine q_ialdN (j := 0) (f := al) dX11_attackerAt_37 smo1.c1 (by omega) (by decide) ?_
    rw [smo1.en]
    change q_W _ _ _ _ _ _ _ _ _ _ [.int (nI (n)), .int (nI (k))] _
    refine q_icmp_ge 98 dX11_attackerAt_38 (by decide) (fun b38 => ?_) (fun b38 => ?_)
    · have b38 := (nI_leI (a := n) (b := k) (by omega) (by omega)).mp b38
      refine q_forget 2 ?_
      refine q_forget 3 ?_
      refine q_forget 4 ?_
      refine q_forget 5 ?_
      change q_W _ _ _ _ _ _ _ _ _ [.ref (215), q_u, q_u, q_u, q_u, q_u, q_u] [] _
      exact K () (by simp only [x_mo_attackerAt_30])
    · have b38 : ¬ (n ≤ k) := fun q => b38 ((nI_leI (a := n) (b := k) (by omega) (by omega)).mpr q)
      exact absurd b38 (by omega)
  | succ r ih =>
    intro k c30_4  hk_30 K K2
    have hb_mo_cg := smo1.bcg
    have hb_mo_lz := smo1.blz
    have hb_mo_ty := smo1.bty
    have hb_mo_he := smo1.bhe
    have hb_mo_cn := smo1.bcn
    have hb_mo_n := smo1.bn
    have hb_mo_mn := smo1.bmn
    refine q_iload dX11_attackerAt_30 rfl ?_
    refine q_aload_n (by first | assumption | omega | decide | (rw [q_R0e]; omega)) dX11_attackerAt_32 rfl ?_
    refine q_getf (k := 1) (v := .ref (216)) kC_X11 kL_X11_9 rfl (by decide) dX11_attackerAt_33 smo1.c0 rfl ?_
    refine q_iconst (v := 0) dX11_attackerAt_36 rfl ?_
    refine q_ialdN (j := 0) (f := al) dX11_attackerAt_37 smo1.c1 (by omega) (by decide) ?_
    rw [smo1.en]
    change q_W _ _ _ _ _ _ _ _ _ _ [.int (nI (n)), .int (nI (k))] _
    refine q_icmp_ge 98 dX11_attackerAt_38 (by decide) (fun b38 => ?_) (fun b38 => ?_)
    · have b38 := (nI_leI (a := n) (b := k) (by omega) (by omega)).mp b38
      exact absurd b38 (by omega)
    · have b38 : ¬ (n ≤ k) := fun q => b38 ((nI_leI (a := n) (b := k) (by omega) (by omega)).mpr q)
      refine q_iload_n dX11_attackerAt_41 rfl ?_
      refine q_iload dX11_attackerAt_42 rfl ?_
      refine q_ishr dX11_attackerAt_44 ?_
      refine q_iconst (v := 1) dX11_attackerAt_45 rfl ?_
      refine q_iand dX11_attackerAt_46 ?_
      refine q_iconst (v := 1) dX11_attackerAt_47 rfl ?_
      refine q_icmp_ne 55 dX11_attackerAt_48 (by decide) (fun b48 => ?_) (fun b48 => ?_)
      · refine q_iconst (v := 0) dX11_attackerAt_55 rfl ?_
        refine q_istore dX11_attackerAt_56 (by decide) rfl ?_
        change q_W _ _ _ _ _ _ _ _ _ [.ref (215), q_u, .int (xp), .int (x_mo_attackers al n (x_pl n al xid - 1)), .int (c30_4), .int (nI (k)), .int (0)] [] _
        refine q_iload dX11_attackerAt_58 rfl ?_
        refine q_if_eq 77 dX11_attackerAt_60 (by decide) (fun b60 => ?_) (fun b60 => ?_)
        · refine q_iload dX11_attackerAt_77 rfl ?_
          refine q_iload dX11_attackerAt_79 rfl ?_
          refine q_if_eq 88 dX11_attackerAt_81 (by decide) (fun b81 => ?_) (fun b81 => ?_)
          · refine q_iconst (v := 0) dX11_attackerAt_88 rfl ?_
            refine q_iadd dX11_attackerAt_89 ?_
            refine q_istore dX11_attackerAt_90 (by decide) rfl ?_
            change q_W _ _ _ _ _ _ _ _ _ [.ref (215), q_u, .int (xp), .int (x_mo_attackers al n (x_pl n al xid - 1)), .int (c30_4 + (0 : Int32)), .int (nI (k)), .int (0)] [] _
            refine q_iinc (x := nI (k)) (v := nI (k + 1)) dX11_attackerAt_92 rfl (nI_add _ 1) rfl ?_
            change q_W _ _ _ _ _ _ _ _ _ [.ref (215), q_u, .int (xp), .int (x_mo_attackers al n (x_pl n al xid - 1)), .int (c30_4 + (0 : Int32)), .int (nI (k + 1)), .int (0)] [] _
            refine q_goto 30 dX11_attackerAt_95 (by decide) ?_
            refine q_forget 6 ?_
            change q_W _ _ _ _ _ _ _ _ _ [.ref (215), q_u, .int (xp), .int (x_mo_attackers al n (x_pl n al xid - 1)), .int (c30_4 + (0 : Int32)), .int (nI (k + 1)), q_u] [] _
            exact ih (k + 1) (c30_4 + (0 : Int32)) (by omega) (fun _ e9 => K () (by simp only [x_mo_attackerAt_30, if_neg b48]; exact e9)) (fun z9 e9 => K2 z9 (by simp only [x_mo_attackerAt_30, if_neg b48]; exact e9))
          · exact absurd (by decide) b81
        · exact absurd (by decide) b60
      · refine q_iconst (v := 1) dX11_attackerAt_51 rfl ?_
        refine q_goto 56 dX11_attackerAt_52 (by decide) ?_
        refine q_istore dX11_attackerAt_56 (by decide) rfl ?_
        change q_W _ _ _ _ _ _ _ _ _ [.ref (215), q_u, .int (xp), .int (x_mo_attackers al n (x_pl n al xid - 1)), .int (c30_4), .int (nI (k)), .int (1)] [] _
        refine q_iload dX11_attackerAt_58 rfl ?_
        refine q_if_eq 77 dX11_attackerAt_60 (by decide) (fun b60 => ?_) (fun b60 => ?_)
        · exact absurd b60 (by decide)
        · refine q_iload dX11_attackerAt_63 rfl ?_
          refine q_iload_n dX11_attackerAt_65 rfl ?_
          refine q_icmp_ne 77 dX11_attackerAt_66 (by decide) (fun b66 => ?_) (fun b66 => ?_)
          · refine q_iload dX11_attackerAt_77 rfl ?_
            refine q_iload dX11_attackerAt_79 rfl ?_
            refine q_if_eq 88 dX11_attackerAt_81 (by decide) (fun b81 => ?_) (fun b81 => ?_)
            · exact absurd b81 (by decide)
            · refine q_iconst (v := 1) dX11_attackerAt_84 rfl ?_
              refine q_goto 89 dX11_attackerAt_85 (by decide) ?_
              refine q_iadd dX11_attackerAt_89 ?_
              refine q_istore dX11_attackerAt_90 (by decide) rfl ?_
              change q_W _ _ _ _ _ _ _ _ _ [.ref (215), q_u, .int (xp), .int (x_mo_attackers al n (x_pl n al xid - 1)), .int (c30_4 + (1 : Int32)), .int (nI (k)), .int (1)] [] _
              refine q_iinc (x := nI (k)) (v := nI (k + 1)) dX11_attackerAt_92 rfl (nI_add _ 1) rfl ?_
              change q_W _ _ _ _ _ _ _ _ _ [.ref (215), q_u, .int (xp), .int (x_mo_attackers al n (x_pl n al xid - 1)), .int (c30_4 + (1 : Int32)), .int (nI (k + 1)), .int (1)] [] _
              refine q_goto 30 dX11_attackerAt_95 (by decide) ?_
              refine q_forget 6 ?_
              change q_W _ _ _ _ _ _ _ _ _ [.ref (215), q_u, .int (xp), .int (x_mo_attackers al n (x_pl n al xid - 1)), .int (c30_4 + (1 : Int32)), .int (nI (k + 1)), q_u] [] _
              exact ih (k + 1) (c30_4 + (1 : Int32)) (by omega) (fun _ e9 => K () (by simp only [x_mo_attackerAt_30, if_pos b48, if_neg b66]; exact e9)) (fun z9 e9 => K2 z9 (by simp only [x_mo_attackerAt_30, if_pos b48, if_neg b66]; exact e9))
          · refine q_aload_n (by first | assumption | omega | decide | (rw [q_R0e]; omega)) dX11_attackerAt_69 rfl ?_
            refine q_iload dX11_attackerAt_70 rfl ?_
            refine q_iconst (v := 0) dX11_attackerAt_72 rfl ?_
            refine q_invV (mc' := 0) (ms' := 0) (d' := d - 1) (as := [.int (nI (k)), .int (0)]) dX11_attackerAt_73 kM_X11_a kL_X11_53 kI_X11_a kS_X11_a rfl (kC_X11.1) smo1.c0 rfl rfl (Nat.le_of_ble_eq_true rfl) (by omega) (by decide) (by omega) (by omega) (e_mo_a (d := d - 1) smo1 k 0 (by omega) (by omega) (by omega)) (q_kR ?_) q_xR
            change q_W _ _ _ _ _ _ _ _ 76 [.ref (215), q_u, .int (xp), .int (x_mo_attackers al n (x_pl n al xid - 1)), .int (c30_4), .int (nI (k)), .int (1)] [.int (al (7 + 3 * k + 0))] _
            exact q_ireturn dX11_attackerAt_76 rfl rfl (by omega) (by omega) (K2 (al (7 + 3 * k + 0), (if x_th n al xid then 0 else 1)) (by simp only [x_mo_attackerAt_30, if_pos b48, if_pos b66]) _ _ ⟨rfl, smo1, p1⟩)
def x_mo_attackerAt (al : Nat → Int32) (n : Nat) (xid : Int32) (xp : Int32) : (Int32) × (Int32) := (if x_th n al xid then (match x_mo_attackerAt_30 al n xid xp n 0 0 with | .inl () => (0, 2) | .inr zz => zz) else (0, (if x_th n al xid then 0 else 1)))
set_option maxRecDepth 100000 in
set_option maxHeartbeats 8000000 in
theorem e_mo_attackerAt {g : q_G} {h : q_H} {d : Nat} {th : Int32} {al : Nat → Int32} {cg : Nat} {sv : Bool} {rs : Int32} {ac : Int32} {rj : Int32} {ro : Nat → Int32} {ad : Nat → Int32} {bf : Nat → Int32} {ln : Nat → Int32} {lz : Nat} {ip : Nat → Int32} {ty : Nat} {he : Nat} {er : Int32} {ea : Int32} {fa : Int32} {cm : Nat → Int32} {cn : Nat} {n : Nat} {mn : Nat} (smo : z_Mo h 215 th al cg sv rs ac rj ro ad bf ln lz ip ty he er ea fa cm cn n mn)  (xid : Int32) (xp : Int32)   (hd : 4 ≤ d) : q_Spec g mX11_attackerAt d 0 0 [.ref (215), .int (xid), .int (xp)] h (q_chg (.inl (some (.int (x_mo_attackerAt al n xid xp).1))) (fun h1 => z_Mo h1 215 ((x_mo_attackerAt al n xid xp).2) al cg sv rs ac rj ro ad bf ln lz ip ty he er ea fa cm cn n mn ∧ q_same h h1 215 8)) := by
  have hb_mo_cg := smo.bcg
  have hb_mo_lz := smo.blz
  have hb_mo_ty := smo.bty
  have hb_mo_he := smo.bhe
  have hb_mo_cn := smo.bcn
  have hb_mo_n := smo.bn
  have hb_mo_mn := smo.bmn
  have ho_mo_cg := smo.bcg
  have ho_mo_lz := smo.blz
  have ho_mo_ty := smo.bty
  have ho_mo_he := smo.bhe
  have ho_mo_cn := smo.bcn
  have ho_mo_n := smo.bn
  have ho_mo_mn := smo.bmn
  have p0 : q_same h h 215 8 := q_same.rfl'
  refine q_enter (by decide +kernel) rfl rfl (Nat.le_of_ble_eq_true rfl) (fun hz => ?_)
  change q_W _ _ _ _ _ _ _ _ _ [.ref (215), .int (xid), .int (xp), q_u, q_u, q_u, q_u] [] _
  refine q_aload_n (by first | assumption | omega | decide | (rw [q_R0e]; omega)) dX11_attackerAt_0 rfl ?_
  refine q_aload_n (by first | assumption | omega | decide | (rw [q_R0e]; omega)) dX11_attackerAt_1 rfl ?_
  refine q_iload_n dX11_attackerAt_2 rfl ?_
  refine q_invV (mc' := 0) (ms' := 0) (d' := d - 1) (as := [.int (xid)]) dX11_attackerAt_3 kM_X11_isThere kL_X11_141 kI_X11_isThere kS_X11_isThere rfl (kC_X11.1) smo.c0 rfl rfl (Nat.le_of_ble_eq_true rfl) (by omega) (by decide) (by omega) (by omega) (e_isThere (d := d - 1) smo xid (by omega)) (q_kR ?_) q_xR
  change q_W _ _ _ _ _ _ _ _ 6 [.ref (215), .int (xid), .int (xp), q_u, q_u, q_u, q_u] [.int (z_b (x_th n al xid)), .ref (215)] _
  refine q_invV (mc' := 0) (ms' := 0) (d' := d - 1) (as := [.int (z_b (x_th n al xid))]) dX11_attackerAt_6 kM_X11_isFine kL_X11_181 kI_X11_isFine kS_X11_isFine rfl (kC_X11.1) smo.c0 rfl rfl (Nat.le_of_ble_eq_true rfl) (by omega) (by decide) (by omega) (by omega) (e_isFine (d := d - 1) smo (xb := (x_th n al xid)) (by omega)) (q_kC (fun h1 hB => ?_)) q_xC
  obtain ⟨t1_0, pp1⟩ := hB
  have smo1 : z_Mo h1 215 (if x_th n al xid then 0 else 1) al cg sv rs ac rj ro ad bf ln lz ip ty he er ea fa cm cn n mn := t1_0
  have p1 := p0.trans (pp1.wide (by omega) (by omega))
  have hb_mo_cg := smo1.bcg
  have hb_mo_lz := smo1.blz
  have hb_mo_ty := smo1.bty
  have hb_mo_he := smo1.bhe
  have hb_mo_cn := smo1.bcn
  have hb_mo_n := smo1.bn
  have hb_mo_mn := smo1.bmn
  change q_W _ _ _ _ _ _ _ _ 9 [.ref (215), .int (xid), .int (xp), q_u, q_u, q_u, q_u] [.int (z_b (x_th n al xid))] _
  refine q_if_ne 14 dX11_attackerAt_9 (by decide) (fun b9 => ?_) (fun b9 => ?_)
  · have b9 := z_b1 b9
    have fb9 : 0 < x_pl n al xid := z_th b9
    refine q_aload_n (by first | assumption | omega | decide | (rw [q_R0e]; omega)) dX11_attackerAt_14 rfl ?_
    refine q_aload_n (by first | assumption | omega | decide | (rw [q_R0e]; omega)) dX11_attackerAt_15 rfl ?_
    refine q_iload_n dX11_attackerAt_16 rfl ?_
    have g2 : x_pl n al xid ≤ n := x_pl_le
    refine q_invV (mc' := 0) (ms' := 0) (d' := d - 1) (as := [.int (xid)]) dX11_attackerAt_17 kM_X11_place kL_X11_57 kI_X11_place kS_X11_place rfl (kC_X11.1) smo1.c0 rfl rfl (Nat.le_of_ble_eq_true rfl) (by omega) (by decide) (by omega) (by omega) (e_placeP (d := d - 1) smo1 xid (by omega) (by omega)) (q_kR ?_) q_xR
    change q_W _ _ _ _ _ _ _ _ 20 [.ref (215), .int (xid), .int (xp), q_u, q_u, q_u, q_u] [.int (nI (x_pl n al xid - 1)), .ref (215)] _
    refine q_invV (mc' := 0) (ms' := 0) (d' := d - 1) (as := [.int (nI (x_pl n al xid - 1))]) dX11_attackerAt_20 kM_X11_attackers kL_X11_80 kI_X11_attackers kS_X11_attackers rfl (kC_X11.1) smo1.c0 rfl rfl (Nat.le_of_ble_eq_true rfl) (by omega) (by decide) (by omega) (by omega) (e_mo_attackers (d := d - 1) smo1 (x_pl n al xid - 1) (by omega) (by omega)) (q_kR ?_) q_xR
    change q_W _ _ _ _ _ _ _ _ 23 [.ref (215), .int (xid), .int (xp), q_u, q_u, q_u, q_u] [.int (x_mo_attackers al n (x_pl n al xid - 1))] _
    refine q_istore_n dX11_attackerAt_23 (by decide) rfl ?_
    change q_W _ _ _ _ _ _ _ _ _ [.ref (215), .int (xid), .int (xp), .int (x_mo_attackers al n (x_pl n al xid - 1)), q_u, q_u, q_u] [] _
    refine q_iconst (v := 0) dX11_attackerAt_24 rfl ?_
    refine q_istore dX11_attackerAt_25 (by decide) rfl ?_
    change q_W _ _ _ _ _ _ _ _ _ [.ref (215), .int (xid), .int (xp), .int (x_mo_attackers al n (x_pl n al xid - 1)), .int (0), q_u, q_u] [] _
    refine q_iconst (v := 0) dX11_attackerAt_27 rfl ?_
    refine q_istore dX11_attackerAt_28 (by decide) rfl ?_
    change q_W _ _ _ _ _ _ _ _ _ [.ref (215), .int (xid), .int (xp), .int (x_mo_attackers al n (x_pl n al xid - 1)), .int (0), .int (0), q_u] [] _
    refine q_forget 1 ?_
    change q_W _ _ _ _ _ _ _ _ _ [.ref (215), q_u, .int (xp), .int (x_mo_attackers al n (x_pl n al xid - 1)), .int (0), .int (0), q_u] [] _
    refine l_mo_attackerAt_30 smo1 p1 ho_mo_cg ho_mo_lz ho_mo_ty ho_mo_he ho_mo_cn ho_mo_n ho_mo_mn fb9 g2 (by omega) (by omega) (by omega) n 0 0 (by omega) (fun _ x3 => ?_) (fun zz x3 => ?_)
    · change q_W _ _ _ _ _ _ _ _ 98 [.ref (215), q_u, q_u, q_u, q_u, q_u, q_u] [] _
      refine q_aload_n (by first | assumption | omega | decide | (rw [q_R0e]; omega)) dX11_attackerAt_98 rfl ?_
      refine q_iconst (v := 2) dX11_attackerAt_99 rfl ?_
      refine q_putf (k := 0) kC_X11 kL_X11_40 rfl (by decide) rfl dX11_attackerAt_100 smo1.c0 (Nat.le_of_ble_eq_true rfl) ⟨rfl, rfl⟩ rfl ?_
      refine z_genW (B := fun H => z_Mo H 215 2 al cg sv rs ac rj ro ad bf ln lz ip ty he er ea fa cm cn n mn ∧ q_same h H 215 8) ⟨z_Mo.put0 smo1 (cg' := cg) (sv' := sv) (lz' := lz) (ty' := ty) (he' := he) (cn' := cn) (hbcg := by first | omega | (split <;> omega)) (hblz := by first | omega | (split <;> omega)) (hbty := by first | omega | (split <;> omega)) (hbhe := by first | omega | (split <;> omega)) (hbcn := by first | omega | (split <;> omega)), p1.trans (q_same.set (by omega) (by omega))⟩ (fun h5 hB => ?_)
      obtain ⟨smo5, p5⟩ := hB
      have hb_mo_cg := smo5.bcg
      have hb_mo_lz := smo5.blz
      have hb_mo_ty := smo5.bty
      have hb_mo_he := smo5.bhe
      have hb_mo_cn := smo5.bcn
      have hb_mo_n := smo5.bn
      have hb_mo_mn := smo5.bmn
      refine q_iconst (v := 0) dX11_attackerAt_103 rfl ?_
      have hE : x_mo_attackerAt al n xid xp = (0, 2) := by simp only [x_mo_attackerAt, if_pos b9, x3]
      rw [hE]
      exact q_ireturn dX11_attackerAt_104 rfl rfl (by omega) (by omega) ⟨rfl, smo5, p5⟩
    · have hE : x_mo_attackerAt al n xid xp = zz := by simp only [x_mo_attackerAt, if_pos b9, x3]
      rw [hE]
      exact fun _ _ q9 => q9
  · have b9 := z_b0n b9
    have fb9 : x_pl n al xid = 0 := z_nth b9
    refine q_iconst (v := 0) dX11_attackerAt_12 rfl ?_
    have hE : x_mo_attackerAt al n xid xp = (0, (if x_th n al xid then 0 else 1)) := by simp only [x_mo_attackerAt, if_neg b9]
    rw [hE]
    exact q_ireturn dX11_attackerAt_13 rfl rfl (by omega) (by omega) ⟨rfl, smo1, p1⟩
def x_mo_isAhead (al : Nat → Int32) (n : Nat) (i : Nat) (j : Nat) : Bool := (if (0 : Int32) < ((x_mo_strength al i) - (x_mo_strength al j)) then true else (if ((x_mo_strength al i) - (x_mo_strength al j)) = (0) then (if (0 : Int32) < ((x_mo_size (x_mo_attackers al n j)) - (x_mo_size (x_mo_attackers al n i))) then true else (if ((x_mo_size (x_mo_attackers al n j)) - (x_mo_size (x_mo_attackers al n i))) = (0) then (if j ≤ i then false else true) else false)) else false))
set_option maxRecDepth 100000 in
set_option maxHeartbeats 8000000 in
theorem e_mo_isAhead {g : q_G} {h : q_H} {d : Nat} {th : Int32} {al : Nat → Int32} {cg : Nat} {sv : Bool} {rs : Int32} {ac : Int32} {rj : Int32} {ro : Nat → Int32} {ad : Nat → Int32} {bf : Nat → Int32} {ln : Nat → Int32} {lz : Nat} {ip : Nat → Int32} {ty : Nat} {he : Nat} {er : Int32} {ea : Int32} {fa : Int32} {cm : Nat → Int32} {cn : Nat} {n : Nat} {mn : Nat} (smo : z_Mo h 215 th al cg sv rs ac rj ro ad bf ln lz ip ty he er ea fa cm cn n mn)  (i : Nat) (j : Nat) (hi : i < 8) (hj : j < 8)  (hd : 4 ≤ d) : q_Spec g mX11_isAhead d 0 0 [.ref (215), .int (nI (i)), .int (nI (j))] h (q_ret ((some (.int (z_b (x_mo_isAhead al n i j))))) h) := by
  have hb_mo_cg := smo.bcg
  have hb_mo_lz := smo.blz
  have hb_mo_ty := smo.bty
  have hb_mo_he := smo.bhe
  have hb_mo_cn := smo.bcn
  have hb_mo_n := smo.bn
  have hb_mo_mn := smo.bmn
  have ho_mo_cg := smo.bcg
  have ho_mo_lz := smo.blz
  have ho_mo_ty := smo.bty
  have ho_mo_he := smo.bhe
  have ho_mo_cn := smo.bcn
  have ho_mo_n := smo.bn
  have ho_mo_mn := smo.bmn
  refine q_enter (by decide +kernel) rfl rfl (Nat.le_of_ble_eq_true rfl) (fun hz => ?_)
  change q_W _ _ _ _ _ _ _ _ _ [.ref (215), .int (nI (i)), .int (nI (j)), q_u, q_u] [] _
  refine q_aload_n (by first | assumption | omega | decide | (rw [q_R0e]; omega)) dX11_isAhead_0 rfl ?_
  refine q_iload_n dX11_isAhead_1 rfl ?_
  refine q_invV (mc' := 0) (ms' := 0) (d' := d - 1) (as := [.int (nI (i))]) dX11_isAhead_2 kM_X11_strength kL_X11_65 kI_X11_strength kS_X11_strength rfl (kC_X11.1) smo.c0 rfl rfl (Nat.le_of_ble_eq_true rfl) (by omega) (by decide) (by omega) (by omega) (e_mo_strength (d := d - 1) smo i (by omega) (by omega)) (q_kR ?_) q_xR
  change q_W _ _ _ _ _ _ _ _ 5 [.ref (215), .int (nI (i)), .int (nI (j)), q_u, q_u] [.int (x_mo_strength al i)] _
  refine q_aload_n (by first | assumption | omega | decide | (rw [q_R0e]; omega)) dX11_isAhead_5 rfl ?_
  refine q_iload_n dX11_isAhead_6 rfl ?_
  refine q_invV (mc' := 0) (ms' := 0) (d' := d - 1) (as := [.int (nI (j))]) dX11_isAhead_7 kM_X11_strength kL_X11_65 kI_X11_strength kS_X11_strength rfl (kC_X11.1) smo.c0 rfl rfl (Nat.le_of_ble_eq_true rfl) (by omega) (by decide) (by omega) (by omega) (e_mo_strength (d := d - 1) smo j (by omega) (by omega)) (q_kR ?_) q_xR
  change q_W _ _ _ _ _ _ _ _ 10 [.ref (215), .int (nI (i)), .int (nI (j)), q_u, q_u] [.int (x_mo_strength al j), .int (x_mo_strength al i)] _
  refine q_isub dX11_isAhead_10 ?_
  refine q_istore_n dX11_isAhead_11 (by decide) rfl ?_
  change q_W _ _ _ _ _ _ _ _ _ [.ref (215), .int (nI (i)), .int (nI (j)), .int ((x_mo_strength al i) - (x_mo_strength al j)), q_u] [] _
  refine q_aload_n (by first | assumption | omega | decide | (rw [q_R0e]; omega)) dX11_isAhead_12 rfl ?_
  refine q_iload_n dX11_isAhead_13 rfl ?_
  refine q_invV (mc' := 0) (ms' := 0) (d' := d - 1) (as := [.int (nI (j))]) dX11_isAhead_14 kM_X11_attackers kL_X11_80 kI_X11_attackers kS_X11_attackers rfl (kC_X11.1) smo.c0 rfl rfl (Nat.le_of_ble_eq_true rfl) (by omega) (by decide) (by omega) (by omega) (e_mo_attackers (d := d - 1) smo j (by omega) (by omega)) (q_kR ?_) q_xR
  change q_W _ _ _ _ _ _ _ _ 17 [.ref (215), .int (nI (i)), .int (nI (j)), .int ((x_mo_strength al i) - (x_mo_strength al j)), q_u] [.int (x_mo_attackers al n j)] _
  refine q_invS (mc' := 0) (ms' := 0) (d' := d - 1) (as := [.int (x_mo_attackers al n j)]) dX11_isAhead_17 kM_X11_size kL_X11_68 kT_X11_size rfl rfl rfl (Nat.le_of_ble_eq_true rfl) (by omega) (by decide) (by omega) (by omega) (e_mo_size (d := d - 1) (x_mo_attackers al n j) (by omega)) (q_kR ?_) q_xR
  change q_W _ _ _ _ _ _ _ _ 20 [.ref (215), .int (nI (i)), .int (nI (j)), .int ((x_mo_strength al i) - (x_mo_strength al j)), q_u] [.int (x_mo_size (x_mo_attackers al n j))] _
  refine q_aload_n (by first | assumption | omega | decide | (rw [q_R0e]; omega)) dX11_isAhead_20 rfl ?_
  refine q_iload_n dX11_isAhead_21 rfl ?_
  refine q_invV (mc' := 0) (ms' := 0) (d' := d - 1) (as := [.int (nI (i))]) dX11_isAhead_22 kM_X11_attackers kL_X11_80 kI_X11_attackers kS_X11_attackers rfl (kC_X11.1) smo.c0 rfl rfl (Nat.le_of_ble_eq_true rfl) (by omega) (by decide) (by omega) (by omega) (e_mo_attackers (d := d - 1) smo i (by omega) (by omega)) (q_kR ?_) q_xR
  change q_W _ _ _ _ _ _ _ _ 25 [.ref (215), .int (nI (i)), .int (nI (j)), .int ((x_mo_strength al i) - (x_mo_strength al j)), q_u] [.int (x_mo_attackers al n i), .int (x_mo_size (x_mo_attackers al n j))] _
  refine q_invS (mc' := 0) (ms' := 0) (d' := d - 1) (as := [.int (x_mo_attackers al n i)]) dX11_isAhead_25 kM_X11_size kL_X11_68 kT_X11_size rfl rfl rfl (Nat.le_of_ble_eq_true rfl) (by omega) (by decide) (by omega) (by omega) (e_mo_size (d := d - 1) (x_mo_attackers al n i) (by omega)) (q_kR ?_) q_xR
  change q_W _ _ _ _ _ _ _ _ 28 [.ref (215), .int (nI (i)), .int (nI (j)), .int ((x_mo_strength al i) - (x_mo_strength al j)), q_u] [.int (x_mo_size (x_mo_attackers al n i)), .int (x_mo_size (x_mo_attackers al n j))] _
  refine q_isub dX11_isAhead_28 ?_
  refine q_istore dX11_isAhead_29 (by decide) rfl ?_
  change q_W _ _ _ _ _ _ _ _ _ [.ref (215), .int (nI (i)), .int (nI (j)), .int ((x_mo_strength al i) - (x_mo_strength al j)), .int ((x_mo_size (x_mo_attackers al n j)) - (x_mo_size (x_mo_attackers al n i)))] [] _
  refine q_iload_n dX11_isAhead_31 rfl ?_
  refine q_if_gt 54 dX11_isAhead_32 (by decide) (fun b32 => ?_) (fun b32 => ?_)
  · refine q_iconst (v := 1) dX11_isAhead_54 rfl ?_
    refine q_goto 59 dX11_isAhead_55 (by decide) ?_
    have hE : x_mo_isAhead al n i j = true := by simp only [x_mo_isAhead, if_pos b32]
    rw [hE]
    exact q_ireturn dX11_isAhead_59 rfl rfl (by omega) (by omega) ⟨rfl, rfl⟩
  · refine q_iload_n dX11_isAhead_35 rfl ?_
    refine q_if_ne 58 dX11_isAhead_36 (by decide) (fun b36 => ?_) (fun b36 => ?_)
    · refine q_iconst (v := 0) dX11_isAhead_58 rfl ?_
      have hE : x_mo_isAhead al n i j = false := by simp only [x_mo_isAhead, if_neg b32, if_neg b36]
      rw [hE]
      exact q_ireturn dX11_isAhead_59 rfl rfl (by omega) (by omega) ⟨rfl, rfl⟩
    · refine q_iload dX11_isAhead_39 rfl ?_
      refine q_if_gt 54 dX11_isAhead_41 (by decide) (fun b41 => ?_) (fun b41 => ?_)
      · refine q_iconst (v := 1) dX11_isAhead_54 rfl ?_
        refine q_goto 59 dX11_isAhead_55 (by decide) ?_
        have hE : x_mo_isAhead al n i j = true := by simp only [x_mo_isAhead, if_neg b32, if_pos b36, if_pos b41]
        rw [hE]
        exact q_ireturn dX11_isAhead_59 rfl rfl (by omega) (by omega) ⟨rfl, rfl⟩
      · refine q_iload dX11_isAhead_44 rfl ?_
        refine q_if_ne 58 dX11_isAhead_46 (by decide) (fun b46 => ?_) (fun b46 => ?_)
        · refine q_iconst (v := 0) dX11_isAhead_58 rfl ?_
          have hE : x_mo_isAhead al n i j = false := by simp only [x_mo_isAhead, if_neg b32, if_pos b36, if_neg b41, if_neg b46]
          rw [hE]
          exact q_ireturn dX11_isAhead_59 rfl rfl (by omega) (by omega) ⟨rfl, rfl⟩
        · refine q_iload_n dX11_isAhead_49 rfl ?_
          refine q_iload_n dX11_isAhead_50 rfl ?_
          refine q_icmp_ge 58 dX11_isAhead_51 (by decide) (fun b51 => ?_) (fun b51 => ?_)
          · have b51 := (nI_leI (a := j) (b := i) (by omega) (by omega)).mp b51
            refine q_iconst (v := 0) dX11_isAhead_58 rfl ?_
            have hE : x_mo_isAhead al n i j = false := by simp only [x_mo_isAhead, if_neg b32, if_pos b36, if_neg b41, if_pos b46, if_pos b51]
            rw [hE]
            exact q_ireturn dX11_isAhead_59 rfl rfl (by omega) (by omega) ⟨rfl, rfl⟩
          · have b51 : ¬ (j ≤ i) := fun q => b51 ((nI_leI (a := j) (b := i) (by omega) (by omega)).mpr q)
            refine q_iconst (v := 1) dX11_isAhead_54 rfl ?_
            refine q_goto 59 dX11_isAhead_55 (by decide) ?_
            have hE : x_mo_isAhead al n i j = true := by simp only [x_mo_isAhead, if_neg b32, if_pos b36, if_neg b41, if_pos b46, if_neg b51]
            rw [hE]
            exact q_ireturn dX11_isAhead_59 rfl rfl (by omega) (by omega) ⟨rfl, rfl⟩
def x_mo_argumentByStrength_17 (al : Nat → Int32) (n : Nat) (k : Nat) : Nat → Nat → (Int32) → (Int32)
  | 0, _, c17_3 => c17_3
  | r + 1, kk, c17_3 => (if x_mo_isAhead al n kk k then x_mo_argumentByStrength_17 al n k r (kk + 1) (c17_3 + (1 : Int32)) else x_mo_argumentByStrength_17 al n k r (kk + 1) (c17_3 + (0 : Int32)))
set_option maxRecDepth 100000 in
set_option maxHeartbeats 8000000 in
theorem l_mo_argumentByStrength_17 {g : q_G} {h hh : q_H} {d mc ms kc ks : Nat} {Q : q_O → q_H → Prop} {al : Nat → Int32} {cg : Nat} {sv : Bool} {rs : Int32} {ac : Int32} {rj : Int32} {ro : Nat → Int32} {ad : Nat → Int32} {bf : Nat → Int32} {ln : Nat → Int32} {lz : Nat} {ip : Nat → Int32} {ty : Nat} {he : Nat} {er : Int32} {ea : Int32} {fa : Int32} {cm : Nat → Int32} {cn : Nat} {n : Nat} {mn : Nat} {xr : Int32} {k : Nat} {th_2 : Int32} (smo_2 : z_Mo hh 215 th_2 al cg sv rs ac rj ro ad bf ln lz ip ty he er ea fa cm cn n mn) (pH : q_same h hh 215 8)  (ho_mo_cg : cg ≤ 8) (ho_mo_lz : lz ≤ 160) (ho_mo_ty : ty ≤ 60) (ho_mo_he : he ≤ 60) (ho_mo_cn : cn ≤ 61) (ho_mo_n : n ≤ 8) (ho_mo_mn : mn ≤ 12) (b9 : ¬ (n ≤ k))  (hd : 5 ≤ d) (hkc : kc + 0 ≤ mc) (hks : ks + 0 ≤ ms) : ∀ (r kk : Nat) (c17_3 : Int32) (hk_17 : kk + r = n) (K : ∀ (r17_0 : Int32), x_mo_argumentByStrength_17 al n k r kk c17_3 = r17_0 → q_W g mX11_argumentByStrength d mc ms Q kc ks 52 [.ref (215), .int (xr), .int (nI (k)), .int (r17_0), q_u] [] hh), q_W g mX11_argumentByStrength d mc ms Q kc ks 17 [.ref (215), .int (xr), .int (nI (k)), .int (c17_3), .int (nI (kk))] [] hh := by
  intro r
  induction r with
  | zero =>
    intro kk c17_3  hk_17 K
    have hb_mo_cg := smo_2.bcg
    have hb_mo_lz := smo_2.blz
    have hb_mo_ty := smo_2.bty
    have hb_mo_he := smo_2.bhe
    have hb_mo_cn := smo_2.bcn
    have hb_mo_n := smo_2.bn
    have hb_mo_mn := smo_2.bmn
    refine q_iload dX11_argumentByStrength_17 rfl ?_
    refine q_aload_n (by first | assumption | omega | decide | (rw [q_R0e]; omega)) dX11_argumentByStrength_19 rfl ?_
    refine q_getf (k := 1) (v := .ref (216)) kC_X11 kL_X11_9 rfl (by decide) dX11_argumentByStrength_20 smo_2.c0 rfl ?_
    refine q_iconst (v := 0) dX11_argumentByStrength_23 rfl ?_
    refine q_ialdN (j := 0) (f := al) dX11_argumentByStrength_24 smo_2.c1 (by omega) (by decide) ?_
    rw [smo_2.en]
    change q_W _ _ _ _ _ _ _ _ _ _ [.int (nI (n)), .int (nI (kk))] _
    refine q_icmp_ge 52 dX11_argumentByStrength_25 (by decide) (fun b25 => ?_) (fun b25 => ?_)
    · have b25 := (nI_leI (a := n) (b := kk) (by omega) (by omega)).mp b25
      refine q_forget 4 ?_
      change q_W _ _ _ _ _ _ _ _ _ [.ref (215), .int (xr), .int (nI (k)), .int (c17_3), q_u] [] _
      exact K c17_3 (by simp only [x_mo_argumentByStrength_17])
    · have b25 : ¬ (n ≤ kk) := fun q => b25 ((nI_leI (a := n) (b := kk) (by omega) (by omega)).mpr q)
      exact absurd b25 (by omega)
  | succ r ih =>
    intro kk c17_3  hk_17 K
    have hb_mo_cg := smo_2.bcg
    have hb_mo_lz := smo_2.blz
    have hb_mo_ty := smo_2.bty
    have hb_mo_he := smo_2.bhe
    have hb_mo_cn := smo_2.bcn
    have hb_mo_n := smo_2.bn
    have hb_mo_mn := smo_2.bmn
    refine q_iload dX11_argumentByStrength_17 rfl ?_
    refine q_aload_n (by first | assumption | omega | decide | (rw [q_R0e]; omega)) dX11_argumentByStrength_19 rfl ?_
    refine q_getf (k := 1) (v := .ref (216)) kC_X11 kL_X11_9 rfl (by decide) dX11_argumentByStrength_20 smo_2.c0 rfl ?_
    refine q_iconst (v := 0) dX11_argumentByStrength_23 rfl ?_
    refine q_ialdN (j := 0) (f := al) dX11_argumentByStrength_24 smo_2.c1 (by omega) (by decide) ?_
    rw [smo_2.en]
    change q_W _ _ _ _ _ _ _ _ _ _ [.int (nI (n)), .int (nI (kk))] _
    refine q_icmp_ge 52 dX11_argumentByStrength_25 (by decide) (fun b25 => ?_) (fun b25 => ?_)
    · have b25 := (nI_leI (a := n) (b := kk) (by omega) (by omega)).mp b25
      exact absurd b25 (by omega)
    · have b25 : ¬ (n ≤ kk) := fun q => b25 ((nI_leI (a := n) (b := kk) (by omega) (by omega)).mpr q)
      refine q_iload_n dX11_argumentByStrength_28 rfl ?_
      refine q_aload_n (by first | assumption | omega | decide | (rw [q_R0e]; omega)) dX11_argumentByStrength_29 rfl ?_
      refine q_iload dX11_argumentByStrength_30 rfl ?_
      refine q_iload_n dX11_argumentByStrength_32 rfl ?_
      refine q_invV (mc' := 0) (ms' := 0) (d' := d - 1) (as := [.int (nI (kk)), .int (nI (k))]) dX11_argumentByStrength_33 kM_X11_isAhead kL_X11_217 kI_X11_isAhead kS_X11_isAhead rfl (kC_X11.1) smo_2.c0 rfl rfl (Nat.le_of_ble_eq_true rfl) (by omega) (by decide) (by omega) (by omega) (e_mo_isAhead (d := d - 1) smo_2 kk k (by omega) (by omega) (by omega)) (q_kR ?_) q_xR
      change q_W _ _ _ _ _ _ _ _ 36 [.ref (215), .int (xr), .int (nI (k)), .int (c17_3), .int (nI (kk))] [.int (z_b (x_mo_isAhead al n kk k)), .int (c17_3)] _
      refine q_if_eq 43 dX11_argumentByStrength_36 (by decide) (fun b36 => ?_) (fun b36 => ?_)
      · have b36 := z_b0n b36
        refine q_iconst (v := 0) dX11_argumentByStrength_43 rfl ?_
        refine q_iadd dX11_argumentByStrength_44 ?_
        refine q_istore_n dX11_argumentByStrength_45 (by decide) rfl ?_
        change q_W _ _ _ _ _ _ _ _ _ [.ref (215), .int (xr), .int (nI (k)), .int (c17_3 + (0 : Int32)), .int (nI (kk))] [] _
        refine q_iinc (x := nI (kk)) (v := nI (kk + 1)) dX11_argumentByStrength_46 rfl (nI_add _ 1) rfl ?_
        change q_W _ _ _ _ _ _ _ _ _ [.ref (215), .int (xr), .int (nI (k)), .int (c17_3 + (0 : Int32)), .int (nI (kk + 1))] [] _
        refine q_goto 17 dX11_argumentByStrength_49 (by decide) ?_
        change q_W _ _ _ _ _ _ _ _ _ [.ref (215), .int (xr), .int (nI (k)), .int (c17_3 + (0 : Int32)), .int (nI (kk + 1))] [] _
        exact ih (kk + 1) (c17_3 + (0 : Int32)) (by omega) (fun r17_0 e9 => K r17_0 (by simp only [x_mo_argumentByStrength_17, if_neg b36]; exact e9))
      · have b36 := z_b1 b36
        refine q_iconst (v := 1) dX11_argumentByStrength_39 rfl ?_
        refine q_goto 44 dX11_argumentByStrength_40 (by decide) ?_
        refine q_iadd dX11_argumentByStrength_44 ?_
        refine q_istore_n dX11_argumentByStrength_45 (by decide) rfl ?_
        change q_W _ _ _ _ _ _ _ _ _ [.ref (215), .int (xr), .int (nI (k)), .int (c17_3 + (1 : Int32)), .int (nI (kk))] [] _
        refine q_iinc (x := nI (kk)) (v := nI (kk + 1)) dX11_argumentByStrength_46 rfl (nI_add _ 1) rfl ?_
        change q_W _ _ _ _ _ _ _ _ _ [.ref (215), .int (xr), .int (nI (k)), .int (c17_3 + (1 : Int32)), .int (nI (kk + 1))] [] _
        refine q_goto 17 dX11_argumentByStrength_49 (by decide) ?_
        change q_W _ _ _ _ _ _ _ _ _ [.ref (215), .int (xr), .int (nI (k)), .int (c17_3 + (1 : Int32)), .int (nI (kk + 1))] [] _
        exact ih (kk + 1) (c17_3 + (1 : Int32)) (by omega) (fun r17_0 e9 => K r17_0 (by simp only [x_mo_argumentByStrength_17, if_pos b36]; exact e9))
def x_mo_argumentByStrength_2 (al : Nat → Int32) (n : Nat) (xr : Int32) : Nat → Nat → (Int32) → ((Int32)) ⊕ ((Int32) × (Int32))
  | 0, _, th_2 => .inl th_2
  | r + 1, k, th_2 => (let a1_0 := x_mo_argumentByStrength_17 al n k n 0 0; (if (a1_0) = (xr) then .inr (al (7 + 3 * k + 0), 0) else x_mo_argumentByStrength_2 al n xr r (k + 1) 1))
set_option maxRecDepth 100000 in
set_option maxHeartbeats 8000000 in
theorem l_mo_argumentByStrength_2 {g : q_G} {h : q_H} {d mc ms kc ks : Nat} {Q : q_O → q_H → Prop} {al : Nat → Int32} {cg : Nat} {sv : Bool} {rs : Int32} {ac : Int32} {rj : Int32} {ro : Nat → Int32} {ad : Nat → Int32} {bf : Nat → Int32} {ln : Nat → Int32} {lz : Nat} {ip : Nat → Int32} {ty : Nat} {he : Nat} {er : Int32} {ea : Int32} {fa : Int32} {cm : Nat → Int32} {cn : Nat} {n : Nat} {mn : Nat} {xr : Int32}   (ho_mo_cg : cg ≤ 8) (ho_mo_lz : lz ≤ 160) (ho_mo_ty : ty ≤ 60) (ho_mo_he : he ≤ 60) (ho_mo_cn : cn ≤ 61) (ho_mo_n : n ≤ 8) (ho_mo_mn : mn ≤ 12)  (hd : 5 ≤ d) (hkc : kc + 0 ≤ mc) (hks : ks + 0 ≤ ms) : ∀ (r k : Nat) (th_2 : Int32) (hh : q_H) (smo_2 : z_Mo hh 215 th_2 al cg sv rs ac rj ro ad bf ln lz ip ty he er ea fa cm cn n mn) (pH : q_same h hh 215 8) (hk_2 : k + r = n) (K : ∀ (r2_0 : Int32), x_mo_argumentByStrength_2 al n xr r k th_2 = .inl r2_0 → ∀ h2, z_Mo h2 215 r2_0 al cg sv rs ac rj ro ad bf ln lz ip ty he er ea fa cm cn n mn → q_same h h2 215 8 → q_W g mX11_argumentByStrength d mc ms Q kc ks 82 [.ref (215), q_u, q_u, q_u, q_u] [] h2) (K2 : ∀ z, x_mo_argumentByStrength_2 al n xr r k th_2 = .inr z → ∀ o h1, q_chg (.inl (some (.int z.1))) (fun h1 => z_Mo h1 215 z.2 al cg sv rs ac rj ro ad bf ln lz ip ty he er ea fa cm cn n mn ∧ q_same h h1 215 8) o h1 → Q o h1), q_W g mX11_argumentByStrength d mc ms Q kc ks 2 [.ref (215), .int (xr), .int (nI (k)), q_u, q_u] [] hh := by
  intro r
  induction r with
  | zero =>
    intro k th_2 hh smo_2 pH hk_2 K K2
    have hb_mo_cg := smo_2.bcg
    have hb_mo_lz := smo_2.blz
    have hb_mo_ty := smo_2.bty
    have hb_mo_he := smo_2.bhe
    have hb_mo_cn := smo_2.bcn
    have hb_mo_n := smo_2.bn
    have hb_mo_mn := smo_2.bmn
    refine q_iload_n dX11_argumentByStrength_2 rfl ?_
    refine q_aload_n (by first | assumption | omega | decide | (rw [q_R0e]; omega)) dX11_argumentByStrength_3 rfl ?_
    refine q_getf (k := 1) (v := .ref (216)) kC_X11 kL_X11_9 rfl (by decide) dX11_argumentByStrength_4 smo_2.c0 rfl ?_
    refine q_iconst (v := 0) dX11_argumentByStrength_7 rfl ?_
    refine q_ialdN (j := 0) (f := al) dX11_argumentByStrength_8 smo_2.c1 (by omega) (by decide) ?_
    rw [smo_2.en]
    change q_W _ _ _ _ _ _ _ _ _ _ [.int (nI (n)), .int (nI (k))] _
    refine q_icmp_ge 82 dX11_argumentByStrength_9 (by decide) (fun b9 => ?_) (fun b9 => ?_)
    · have b9 := (nI_leI (a := n) (b := k) (by omega) (by omega)).mp b9
      refine q_forget 1 ?_
      refine q_forget 2 ?_
      change q_W _ _ _ _ _ _ _ _ _ [.ref (215), q_u, q_u, q_u, q_u] [] _
      exact K th_2 (by simp only [x_mo_argumentByStrength_2]) hh smo_2 pH
    · have b9 : ¬ (n ≤ k) := fun q => b9 ((nI_leI (a := n) (b := k) (by omega) (by omega)).mpr q)
      exact absurd b9 (by omega)
  | succ r ih =>
    intro k th_2 hh smo_2 pH hk_2 K K2
    have hb_mo_cg := smo_2.bcg
    have hb_mo_lz := smo_2.blz
    have hb_mo_ty := smo_2.bty
    have hb_mo_he := smo_2.bhe
    have hb_mo_cn := smo_2.bcn
    have hb_mo_n := smo_2.bn
    have hb_mo_mn := smo_2.bmn
    refine q_iload_n dX11_argumentByStrength_2 rfl ?_
    refine q_aload_n (by first | assumption | omega | decide | (rw [q_R0e]; omega)) dX11_argumentByStrength_3 rfl ?_
    refine q_getf (k := 1) (v := .ref (216)) kC_X11 kL_X11_9 rfl (by decide) dX11_argumentByStrength_4 smo_2.c0 rfl ?_
    refine q_iconst (v := 0) dX11_argumentByStrength_7 rfl ?_
    refine q_ialdN (j := 0) (f := al) dX11_argumentByStrength_8 smo_2.c1 (by omega) (by decide) ?_
    rw [smo_2.en]
    change q_W _ _ _ _ _ _ _ _ _ _ [.int (nI (n)), .int (nI (k))] _
    refine q_icmp_ge 82 dX11_argumentByStrength_9 (by decide) (fun b9 => ?_) (fun b9 => ?_)
    · have b9 := (nI_leI (a := n) (b := k) (by omega) (by omega)).mp b9
      exact absurd b9 (by omega)
    · have b9 : ¬ (n ≤ k) := fun q => b9 ((nI_leI (a := n) (b := k) (by omega) (by omega)).mpr q)
      refine q_iconst (v := 0) dX11_argumentByStrength_12 rfl ?_
      refine q_istore_n dX11_argumentByStrength_13 (by decide) rfl ?_
      change q_W _ _ _ _ _ _ _ _ _ [.ref (215), .int (xr), .int (nI (k)), .int (0), q_u] [] _
      refine q_iconst (v := 0) dX11_argumentByStrength_14 rfl ?_
      refine q_istore dX11_argumentByStrength_15 (by decide) rfl ?_
      change q_W _ _ _ _ _ _ _ _ _ [.ref (215), .int (xr), .int (nI (k)), .int (0), .int (0)] [] _
      change q_W _ _ _ _ _ _ _ _ _ [.ref (215), .int (xr), .int (nI (k)), .int (0), .int (0)] [] _
      refine l_mo_argumentByStrength_17 smo_2 pH ho_mo_cg ho_mo_lz ho_mo_ty ho_mo_he ho_mo_cn ho_mo_n ho_mo_mn b9 (by omega) (by omega) (by omega) n 0 0 (by omega) (fun a1_0 x1 => ?_)
      change q_W _ _ _ _ _ _ _ _ 52 [.ref (215), .int (xr), .int (nI (k)), .int (a1_0), q_u] [] _
      refine q_aload_n (by first | assumption | omega | decide | (rw [q_R0e]; omega)) dX11_argumentByStrength_52 rfl ?_
      refine q_iload_n dX11_argumentByStrength_53 rfl ?_
      refine q_iload_n dX11_argumentByStrength_54 rfl ?_
      refine q_icmp_ne 62 dX11_argumentByStrength_55 (by decide) (fun b55 => ?_) (fun b55 => ?_)
      · refine q_iconst (v := 0) dX11_argumentByStrength_62 rfl ?_
        refine q_invV (mc' := 0) (ms' := 0) (d' := d - 1) (as := [.int (0)]) dX11_argumentByStrength_63 kM_X11_isFine kL_X11_181 kI_X11_isFine kS_X11_isFine rfl (kC_X11.1) smo_2.c0 rfl rfl (Nat.le_of_ble_eq_true rfl) (by omega) (by decide) (by omega) (by omega) (e_isFine (d := d - 1) smo_2 (xb := false) (by omega)) (q_kC (fun h3 hB => ?_)) q_xC
        obtain ⟨t3_0, pp3⟩ := hB
        have smo3 : z_Mo h3 215 1 al cg sv rs ac rj ro ad bf ln lz ip ty he er ea fa cm cn n mn := t3_0
        have p3 := pH.trans (pp3.wide (by omega) (by omega))
        have hb_mo_cg := smo3.bcg
        have hb_mo_lz := smo3.blz
        have hb_mo_ty := smo3.bty
        have hb_mo_he := smo3.bhe
        have hb_mo_cn := smo3.bcn
        have hb_mo_n := smo3.bn
        have hb_mo_mn := smo3.bmn
        change q_W _ _ _ _ _ _ _ _ 66 [.ref (215), .int (xr), .int (nI (k)), .int (a1_0), q_u] [.int (0)] _
        refine q_if_eq 76 dX11_argumentByStrength_66 (by decide) (fun b66 => ?_) (fun b66 => ?_)
        · refine q_iinc (x := nI (k)) (v := nI (k + 1)) dX11_argumentByStrength_76 rfl (nI_add _ 1) rfl ?_
          change q_W _ _ _ _ _ _ _ _ _ [.ref (215), .int (xr), .int (nI (k + 1)), .int (a1_0), q_u] [] _
          refine q_goto 2 dX11_argumentByStrength_79 (by decide) ?_
          refine q_forget 3 ?_
          change q_W _ _ _ _ _ _ _ _ _ [.ref (215), .int (xr), .int (nI (k + 1)), q_u, q_u] [] _
          exact ih (k + 1) 1 h3 smo3 p3 (by omega) (fun r2_0 e9 => K r2_0 (by simp only [x_mo_argumentByStrength_2, x1, if_neg b55]; exact e9)) (fun z9 e9 => K2 z9 (by simp only [x_mo_argumentByStrength_2, x1, if_neg b55]; exact e9))
        · exact absurd (by decide) b66
      · refine q_iconst (v := 1) dX11_argumentByStrength_58 rfl ?_
        refine q_goto 63 dX11_argumentByStrength_59 (by decide) ?_
        refine q_invV (mc' := 0) (ms' := 0) (d' := d - 1) (as := [.int (1)]) dX11_argumentByStrength_63 kM_X11_isFine kL_X11_181 kI_X11_isFine kS_X11_isFine rfl (kC_X11.1) smo_2.c0 rfl rfl (Nat.le_of_ble_eq_true rfl) (by omega) (by decide) (by omega) (by omega) (e_isFine (d := d - 1) smo_2 (xb := true) (by omega)) (q_kC (fun h4 hB => ?_)) q_xC
        obtain ⟨t4_0, pp4⟩ := hB
        have smo4 : z_Mo h4 215 0 al cg sv rs ac rj ro ad bf ln lz ip ty he er ea fa cm cn n mn := t4_0
        have p4 := pH.trans (pp4.wide (by omega) (by omega))
        have hb_mo_cg := smo4.bcg
        have hb_mo_lz := smo4.blz
        have hb_mo_ty := smo4.bty
        have hb_mo_he := smo4.bhe
        have hb_mo_cn := smo4.bcn
        have hb_mo_n := smo4.bn
        have hb_mo_mn := smo4.bmn
        change q_W _ _ _ _ _ _ _ _ 66 [.ref (215), .int (xr), .int (nI (k)), .int (a1_0), q_u] [.int (1)] _
        refine q_if_eq 76 dX11_argumentByStrength_66 (by decide) (fun b66 => ?_) (fun b66 => ?_)
        · exact absurd b66 (by decide)
        · refine q_aload_n (by first | assumption | omega | decide | (rw [q_R0e]; omega)) dX11_argumentByStrength_69 rfl ?_
          refine q_iload_n dX11_argumentByStrength_70 rfl ?_
          refine q_iconst (v := 0) dX11_argumentByStrength_71 rfl ?_
          refine q_invV (mc' := 0) (ms' := 0) (d' := d - 1) (as := [.int (nI (k)), .int (0)]) dX11_argumentByStrength_72 kM_X11_a kL_X11_53 kI_X11_a kS_X11_a rfl (kC_X11.1) smo4.c0 rfl rfl (Nat.le_of_ble_eq_true rfl) (by omega) (by decide) (by omega) (by omega) (e_mo_a (d := d - 1) smo4 k 0 (by omega) (by omega) (by omega)) (q_kR ?_) q_xR
          change q_W _ _ _ _ _ _ _ _ 75 [.ref (215), .int (xr), .int (nI (k)), .int (a1_0), q_u] [.int (al (7 + 3 * k + 0))] _
          exact q_ireturn dX11_argumentByStrength_75 rfl rfl (by omega) (by omega) (K2 (al (7 + 3 * k + 0), 0) (by simp only [x_mo_argumentByStrength_2, x1, if_pos b55]) _ _ ⟨rfl, smo4, p4⟩)
def x_mo_argumentByStrength (th : Int32) (al : Nat → Int32) (n : Nat) (xr : Int32) : (Int32) × (Int32) := (match x_mo_argumentByStrength_2 al n xr n 0 th with | .inl a5_0 => (0, 1) | .inr zz => zz)
set_option maxRecDepth 100000 in
set_option maxHeartbeats 8000000 in
theorem e_mo_argumentByStrength {g : q_G} {h : q_H} {d : Nat} {th : Int32} {al : Nat → Int32} {cg : Nat} {sv : Bool} {rs : Int32} {ac : Int32} {rj : Int32} {ro : Nat → Int32} {ad : Nat → Int32} {bf : Nat → Int32} {ln : Nat → Int32} {lz : Nat} {ip : Nat → Int32} {ty : Nat} {he : Nat} {er : Int32} {ea : Int32} {fa : Int32} {cm : Nat → Int32} {cn : Nat} {n : Nat} {mn : Nat} (smo : z_Mo h 215 th al cg sv rs ac rj ro ad bf ln lz ip ty he er ea fa cm cn n mn)  (xr : Int32)   (hd : 5 ≤ d) : q_Spec g mX11_argumentByStrength d 0 0 [.ref (215), .int (xr)] h (q_chg (.inl (some (.int (x_mo_argumentByStrength th al n xr).1))) (fun h1 => z_Mo h1 215 ((x_mo_argumentByStrength th al n xr).2) al cg sv rs ac rj ro ad bf ln lz ip ty he er ea fa cm cn n mn ∧ q_same h h1 215 8)) := by
  have hb_mo_cg := smo.bcg
  have hb_mo_lz := smo.blz
  have hb_mo_ty := smo.bty
  have hb_mo_he := smo.bhe
  have hb_mo_cn := smo.bcn
  have hb_mo_n := smo.bn
  have hb_mo_mn := smo.bmn
  have ho_mo_cg := smo.bcg
  have ho_mo_lz := smo.blz
  have ho_mo_ty := smo.bty
  have ho_mo_he := smo.bhe
  have ho_mo_cn := smo.bcn
  have ho_mo_n := smo.bn
  have ho_mo_mn := smo.bmn
  have p0 : q_same h h 215 8 := q_same.rfl'
  refine q_enter (by decide +kernel) rfl rfl (Nat.le_of_ble_eq_true rfl) (fun hz => ?_)
  change q_W _ _ _ _ _ _ _ _ _ [.ref (215), .int (xr), q_u, q_u, q_u] [] _
  refine q_iconst (v := 0) dX11_argumentByStrength_0 rfl ?_
  refine q_istore_n dX11_argumentByStrength_1 (by decide) rfl ?_
  change q_W _ _ _ _ _ _ _ _ _ [.ref (215), .int (xr), .int (0), q_u, q_u] [] _
  change q_W _ _ _ _ _ _ _ _ _ [.ref (215), .int (xr), .int (0), q_u, q_u] [] _
  refine l_mo_argumentByStrength_2 ho_mo_cg ho_mo_lz ho_mo_ty ho_mo_he ho_mo_cn ho_mo_n ho_mo_mn (by omega) (by omega) (by omega) n 0 th h smo p0 (by omega) (fun a5_0 x5 h6 smo6 p6 => ?_) (fun zz x5 => ?_)
  · have hb_mo_cg := smo6.bcg
    have hb_mo_lz := smo6.blz
    have hb_mo_ty := smo6.bty
    have hb_mo_he := smo6.bhe
    have hb_mo_cn := smo6.bcn
    have hb_mo_n := smo6.bn
    have hb_mo_mn := smo6.bmn
    change q_W _ _ _ _ _ _ _ _ 82 [.ref (215), q_u, q_u, q_u, q_u] [] _
    refine q_aload_n (by first | assumption | omega | decide | (rw [q_R0e]; omega)) dX11_argumentByStrength_82 rfl ?_
    refine q_iconst (v := 1) dX11_argumentByStrength_83 rfl ?_
    refine q_putf (k := 0) kC_X11 kL_X11_40 rfl (by decide) rfl dX11_argumentByStrength_84 smo6.c0 (Nat.le_of_ble_eq_true rfl) ⟨rfl, rfl⟩ rfl ?_
    refine z_genW (B := fun H => z_Mo H 215 1 al cg sv rs ac rj ro ad bf ln lz ip ty he er ea fa cm cn n mn ∧ q_same h H 215 8) ⟨z_Mo.put0 smo6 (cg' := cg) (sv' := sv) (lz' := lz) (ty' := ty) (he' := he) (cn' := cn) (hbcg := by first | omega | (split <;> omega)) (hblz := by first | omega | (split <;> omega)) (hbty := by first | omega | (split <;> omega)) (hbhe := by first | omega | (split <;> omega)) (hbcn := by first | omega | (split <;> omega)), p6.trans (q_same.set (by omega) (by omega))⟩ (fun h7 hB => ?_)
    obtain ⟨smo7, p7⟩ := hB
    have hb_mo_cg := smo7.bcg
    have hb_mo_lz := smo7.blz
    have hb_mo_ty := smo7.bty
    have hb_mo_he := smo7.bhe
    have hb_mo_cn := smo7.bcn
    have hb_mo_n := smo7.bn
    have hb_mo_mn := smo7.bmn
    refine q_iconst (v := 0) dX11_argumentByStrength_87 rfl ?_
    have hE : x_mo_argumentByStrength th al n xr = (0, 1) := by simp only [x_mo_argumentByStrength, x5]
    rw [hE]
    exact q_ireturn dX11_argumentByStrength_88 rfl rfl (by omega) (by omega) ⟨rfl, smo7, p7⟩
  · have hE : x_mo_argumentByStrength th al n xr = zz := by simp only [x_mo_argumentByStrength, x5]
    rw [hE]
    exact fun _ _ q9 => q9
theorem z_vp39 {x : Int32} {n : Nat} (h1 : ¬ x < 0) (h2 : x < nI n) (hn : n ≤ 12) : vp_in (39 + x) 612 := by
  obtain ⟨j, hj, rfl⟩ := nI_of h1
  have := (nI_ltI hj (by omega)).mp h2
  show vp_in (nI 39 + nI j) 612
  rw [nI_add]
  exact vp_in_nI (by omega) (by decide)
def x_mo_moveAt (al : Nat → Int32) (mn : Nat) (xp : Int32) : (Int32) × (Int32) := (if x_mo_in xp 0 ((nI (mn)) - (1 : Int32)) then (al ((39 : Int32) + xp).toNatClampNeg, (if x_mo_in xp 0 ((nI (mn)) - (1 : Int32)) then 0 else 1)) else (0, (if x_mo_in xp 0 ((nI (mn)) - (1 : Int32)) then 0 else 1)))
set_option maxRecDepth 100000 in
set_option maxHeartbeats 8000000 in
theorem e_mo_moveAt {g : q_G} {h : q_H} {d : Nat} {th : Int32} {al : Nat → Int32} {cg : Nat} {sv : Bool} {rs : Int32} {ac : Int32} {rj : Int32} {ro : Nat → Int32} {ad : Nat → Int32} {bf : Nat → Int32} {ln : Nat → Int32} {lz : Nat} {ip : Nat → Int32} {ty : Nat} {he : Nat} {er : Int32} {ea : Int32} {fa : Int32} {cm : Nat → Int32} {cn : Nat} {n : Nat} {mn : Nat} (smo : z_Mo h 215 th al cg sv rs ac rj ro ad bf ln lz ip ty he er ea fa cm cn n mn)  (xp : Int32)   (hd : 1 ≤ d) : q_Spec g mX11_moveAt d 0 0 [.ref (215), .int (xp)] h (q_chg (.inl (some (.int (x_mo_moveAt al mn xp).1))) (fun h1 => z_Mo h1 215 ((x_mo_moveAt al mn xp).2) al cg sv rs ac rj ro ad bf ln lz ip ty he er ea fa cm cn n mn ∧ q_same h h1 215 8)) := by
  have hb_mo_cg := smo.bcg
  have hb_mo_lz := smo.blz
  have hb_mo_ty := smo.bty
  have hb_mo_he := smo.bhe
  have hb_mo_cn := smo.bcn
  have hb_mo_n := smo.bn
  have hb_mo_mn := smo.bmn
  have ho_mo_cg := smo.bcg
  have ho_mo_lz := smo.blz
  have ho_mo_ty := smo.bty
  have ho_mo_he := smo.bhe
  have ho_mo_cn := smo.bcn
  have ho_mo_n := smo.bn
  have ho_mo_mn := smo.bmn
  have p0 : q_same h h 215 8 := q_same.rfl'
  refine q_enter (by decide +kernel) rfl rfl (Nat.le_of_ble_eq_true rfl) (fun hz => ?_)
  change q_W _ _ _ _ _ _ _ _ _ [.ref (215), .int (xp)] [] _
  refine q_aload_n (by first | assumption | omega | decide | (rw [q_R0e]; omega)) dX11_moveAt_0 rfl ?_
  refine q_iload_n dX11_moveAt_1 rfl ?_
  refine q_iconst (v := 0) dX11_moveAt_2 rfl ?_
  refine q_aload_n (by first | assumption | omega | decide | (rw [q_R0e]; omega)) dX11_moveAt_3 rfl ?_
  refine q_getf (k := 1) (v := .ref (216)) kC_X11 kL_X11_9 rfl (by decide) dX11_moveAt_4 smo.c0 rfl ?_
  refine q_iconst (v := 3) dX11_moveAt_7 rfl ?_
  refine q_ialdN (j := 3) (f := al) dX11_moveAt_8 smo.c1 (by omega) (by decide) ?_
  rw [smo.emn]
  change q_W _ _ _ _ _ _ _ _ _ _ [.int (nI (mn)), .int (0), .int (xp), .ref (215)] _
  refine q_iconst (v := 1) dX11_moveAt_9 rfl ?_
  refine q_isub dX11_moveAt_10 ?_
  refine q_invS (mc' := 0) (ms' := 0) (d' := d - 1) (as := [.int (xp), .int (0), .int ((nI (mn)) - (1 : Int32))]) dX11_moveAt_11 kM_X11_in kL_X11_109 kT_X11_in rfl rfl rfl (Nat.le_of_ble_eq_true rfl) (by omega) (by decide) (by omega) (by omega) (e_mo_in (d := d - 1) xp 0 ((nI (mn)) - (1 : Int32)) (by omega)) (q_kR ?_) q_xR
  change q_W _ _ _ _ _ _ _ _ 14 [.ref (215), .int (xp)] [.int (z_b (x_mo_in xp 0 ((nI (mn)) - (1 : Int32)))), .ref (215)] _
  refine q_invV (mc' := 0) (ms' := 0) (d' := d - 1) (as := [.int (z_b (x_mo_in xp 0 ((nI (mn)) - (1 : Int32))))]) dX11_moveAt_14 kM_X11_isFine kL_X11_181 kI_X11_isFine kS_X11_isFine rfl (kC_X11.1) smo.c0 rfl rfl (Nat.le_of_ble_eq_true rfl) (by omega) (by decide) (by omega) (by omega) (e_isFine (d := d - 1) smo (xb := (x_mo_in xp 0 ((nI (mn)) - (1 : Int32)))) (by omega)) (q_kC (fun h1 hB => ?_)) q_xC
  obtain ⟨t1_0, pp1⟩ := hB
  have smo1 : z_Mo h1 215 (if x_mo_in xp 0 ((nI (mn)) - (1 : Int32)) then 0 else 1) al cg sv rs ac rj ro ad bf ln lz ip ty he er ea fa cm cn n mn := t1_0
  have p1 := p0.trans (pp1.wide (by omega) (by omega))
  have hb_mo_cg := smo1.bcg
  have hb_mo_lz := smo1.blz
  have hb_mo_ty := smo1.bty
  have hb_mo_he := smo1.bhe
  have hb_mo_cn := smo1.bcn
  have hb_mo_n := smo1.bn
  have hb_mo_mn := smo1.bmn
  change q_W _ _ _ _ _ _ _ _ 17 [.ref (215), .int (xp)] [.int (z_b (x_mo_in xp 0 ((nI (mn)) - (1 : Int32))))] _
  refine q_if_eq 32 dX11_moveAt_17 (by decide) (fun b17 => ?_) (fun b17 => ?_)
  · have b17 := z_b0n b17
    refine q_iconst (v := 0) dX11_moveAt_32 rfl ?_
    have hE : x_mo_moveAt al mn xp = (0, (if x_mo_in xp 0 ((nI (mn)) - (1 : Int32)) then 0 else 1)) := by simp only [x_mo_moveAt, if_neg b17]
    rw [hE]
    exact q_ireturn dX11_moveAt_33 rfl rfl (by omega) (by omega) ⟨rfl, smo1, p1⟩
  · have b17 := z_b1 b17
    refine q_aload_n (by first | assumption | omega | decide | (rw [q_R0e]; omega)) dX11_moveAt_20 rfl ?_
    refine q_getf (k := 1) (v := .ref (216)) kC_X11 kL_X11_9 rfl (by decide) dX11_moveAt_21 smo1.c0 rfl ?_
    refine q_bipush (v := 39) dX11_moveAt_24 rfl ?_
    refine q_iload_n dX11_moveAt_26 rfl ?_
    refine q_iadd dX11_moveAt_27 ?_
    refine q_iald (f := al) dX11_moveAt_28 smo1.c1 (z_vp39 (z_in0 (by omega) b17).1 (z_in0 (by omega) b17).2 (by omega)) ?_
    change q_W _ _ _ _ _ _ _ _ 29 [.ref (215), .int (xp)] [.int (al ((39 : Int32) + xp).toNatClampNeg)] _
    refine q_goto 33 dX11_moveAt_29 (by decide) ?_
    have hE : x_mo_moveAt al mn xp = (al ((39 : Int32) + xp).toNatClampNeg, (if x_mo_in xp 0 ((nI (mn)) - (1 : Int32)) then 0 else 1)) := by simp only [x_mo_moveAt, if_pos b17]
    rw [hE]
    exact q_ireturn dX11_moveAt_33 rfl rfl (by omega) (by omega) ⟨rfl, smo1, p1⟩
def x_mo_canMove (al : Nat → Int32) (n : Nat) (mn : Nat) (xid : Int32) : (Bool) × (Int32) := (if mn ≤ 0 then (false, 1) else (if x_th n al xid then (if 12 ≤ mn then (false, 0) else (if x_mo_isAllowed al n mn xid then (true, 0) else (false, 0))) else (false, 1)))
set_option maxRecDepth 100000 in
set_option maxHeartbeats 8000000 in
theorem e_mo_canMove {g : q_G} {h : q_H} {d : Nat} {th : Int32} {al : Nat → Int32} {cg : Nat} {sv : Bool} {rs : Int32} {ac : Int32} {rj : Int32} {ro : Nat → Int32} {ad : Nat → Int32} {bf : Nat → Int32} {ln : Nat → Int32} {lz : Nat} {ip : Nat → Int32} {ty : Nat} {he : Nat} {er : Int32} {ea : Int32} {fa : Int32} {cm : Nat → Int32} {cn : Nat} {n : Nat} {mn : Nat} (smo : z_Mo h 215 th al cg sv rs ac rj ro ad bf ln lz ip ty he er ea fa cm cn n mn)  (xid : Int32) (hlm : mn ≠ 0 → 0 < x_pl n al (al (39 + mn - 1)))  (hd : 5 ≤ d) : q_Spec g mX11_canMove d 0 0 [.ref (215), .int (xid)] h (q_chg (.inl (some (.int (z_b (x_mo_canMove al n mn xid).1)))) (fun h1 => z_Mo h1 215 ((x_mo_canMove al n mn xid).2) al cg sv rs ac rj ro ad bf ln lz ip ty he er ea fa cm cn n mn ∧ q_same h h1 215 8)) := by
  have hb_mo_cg := smo.bcg
  have hb_mo_lz := smo.blz
  have hb_mo_ty := smo.bty
  have hb_mo_he := smo.bhe
  have hb_mo_cn := smo.bcn
  have hb_mo_n := smo.bn
  have hb_mo_mn := smo.bmn
  have ho_mo_cg := smo.bcg
  have ho_mo_lz := smo.blz
  have ho_mo_ty := smo.bty
  have ho_mo_he := smo.bhe
  have ho_mo_cn := smo.bcn
  have ho_mo_n := smo.bn
  have ho_mo_mn := smo.bmn
  have p0 : q_same h h 215 8 := q_same.rfl'
  refine q_enter (by decide +kernel) rfl rfl (Nat.le_of_ble_eq_true rfl) (fun hz => ?_)
  change q_W _ _ _ _ _ _ _ _ _ [.ref (215), .int (xid)] [] _
  refine q_aload_n (by first | assumption | omega | decide | (rw [q_R0e]; omega)) dX11_canMove_0 rfl ?_
  refine q_aload_n (by first | assumption | omega | decide | (rw [q_R0e]; omega)) dX11_canMove_1 rfl ?_
  refine q_getf (k := 1) (v := .ref (216)) kC_X11 kL_X11_9 rfl (by decide) dX11_canMove_2 smo.c0 rfl ?_
  refine q_iconst (v := 3) dX11_canMove_5 rfl ?_
  refine q_ialdN (j := 3) (f := al) dX11_canMove_6 smo.c1 (by omega) (by decide) ?_
  rw [smo.emn]
  change q_W _ _ _ _ _ _ _ _ _ _ [.int (nI (mn)), .ref (215)] _
  refine q_if_le 22 dX11_canMove_7 (by decide) (fun b7 => ?_) (fun b7 => ?_)
  · have b7 := (nI_leI (a := mn) (b := 0) (by omega) (by omega)).mp b7
    refine q_iconst (v := 0) dX11_canMove_22 rfl ?_
    refine q_invV (mc' := 0) (ms' := 0) (d' := d - 1) (as := [.int (0)]) dX11_canMove_23 kM_X11_isFine kL_X11_181 kI_X11_isFine kS_X11_isFine rfl (kC_X11.1) smo.c0 rfl rfl (Nat.le_of_ble_eq_true rfl) (by omega) (by decide) (by omega) (by omega) (e_isFine (d := d - 1) smo (xb := false) (by omega)) (q_kC (fun h1 hB => ?_)) q_xC
    obtain ⟨t1_0, pp1⟩ := hB
    have smo1 : z_Mo h1 215 1 al cg sv rs ac rj ro ad bf ln lz ip ty he er ea fa cm cn n mn := t1_0
    have p1 := p0.trans (pp1.wide (by omega) (by omega))
    have hb_mo_cg := smo1.bcg
    have hb_mo_lz := smo1.blz
    have hb_mo_ty := smo1.bty
    have hb_mo_he := smo1.bhe
    have hb_mo_cn := smo1.bcn
    have hb_mo_n := smo1.bn
    have hb_mo_mn := smo1.bmn
    change q_W _ _ _ _ _ _ _ _ 26 [.ref (215), .int (xid)] [.int (0)] _
    refine q_if_eq 52 dX11_canMove_26 (by decide) (fun b26 => ?_) (fun b26 => ?_)
    · refine q_iconst (v := 0) dX11_canMove_52 rfl ?_
      have hE : x_mo_canMove al n mn xid = (false, 1) := by simp only [x_mo_canMove, if_pos b7]
      rw [hE]
      exact q_ireturn dX11_canMove_53 rfl rfl (by omega) (by omega) ⟨rfl, smo1, p1⟩
    · exact absurd (by decide) b26
  · have b7 : ¬ (mn ≤ 0) := fun q => b7 ((nI_leI (a := mn) (b := 0) (by omega) (by omega)).mpr q)
    refine q_aload_n (by first | assumption | omega | decide | (rw [q_R0e]; omega)) dX11_canMove_10 rfl ?_
    refine q_iload_n dX11_canMove_11 rfl ?_
    refine q_invV (mc' := 0) (ms' := 0) (d' := d - 1) (as := [.int (xid)]) dX11_canMove_12 kM_X11_isThere kL_X11_141 kI_X11_isThere kS_X11_isThere rfl (kC_X11.1) smo.c0 rfl rfl (Nat.le_of_ble_eq_true rfl) (by omega) (by decide) (by omega) (by omega) (e_isThere (d := d - 1) smo xid (by omega)) (q_kR ?_) q_xR
    change q_W _ _ _ _ _ _ _ _ 15 [.ref (215), .int (xid)] [.int (z_b (x_th n al xid)), .ref (215)] _
    refine q_if_eq 22 dX11_canMove_15 (by decide) (fun b15 => ?_) (fun b15 => ?_)
    · have b15 := z_b0n b15
      have fb15 : x_pl n al xid = 0 := z_nth b15
      refine q_iconst (v := 0) dX11_canMove_22 rfl ?_
      refine q_invV (mc' := 0) (ms' := 0) (d' := d - 1) (as := [.int (0)]) dX11_canMove_23 kM_X11_isFine kL_X11_181 kI_X11_isFine kS_X11_isFine rfl (kC_X11.1) smo.c0 rfl rfl (Nat.le_of_ble_eq_true rfl) (by omega) (by decide) (by omega) (by omega) (e_isFine (d := d - 1) smo (xb := false) (by omega)) (q_kC (fun h2 hB => ?_)) q_xC
      obtain ⟨t2_0, pp2⟩ := hB
      have smo2 : z_Mo h2 215 1 al cg sv rs ac rj ro ad bf ln lz ip ty he er ea fa cm cn n mn := t2_0
      have p2 := p0.trans (pp2.wide (by omega) (by omega))
      have hb_mo_cg := smo2.bcg
      have hb_mo_lz := smo2.blz
      have hb_mo_ty := smo2.bty
      have hb_mo_he := smo2.bhe
      have hb_mo_cn := smo2.bcn
      have hb_mo_n := smo2.bn
      have hb_mo_mn := smo2.bmn
      change q_W _ _ _ _ _ _ _ _ 26 [.ref (215), .int (xid)] [.int (0)] _
      refine q_if_eq 52 dX11_canMove_26 (by decide) (fun b26 => ?_) (fun b26 => ?_)
      · refine q_iconst (v := 0) dX11_canMove_52 rfl ?_
        have hE : x_mo_canMove al n mn xid = (false, 1) := by simp only [x_mo_canMove, if_neg b7, if_neg b15]
        rw [hE]
        exact q_ireturn dX11_canMove_53 rfl rfl (by omega) (by omega) ⟨rfl, smo2, p2⟩
      · exact absurd (by decide) b26
    · have b15 := z_b1 b15
      have fb15 : 0 < x_pl n al xid := z_th b15
      refine q_iconst (v := 1) dX11_canMove_18 rfl ?_
      refine q_goto 23 dX11_canMove_19 (by decide) ?_
      refine q_invV (mc' := 0) (ms' := 0) (d' := d - 1) (as := [.int (1)]) dX11_canMove_23 kM_X11_isFine kL_X11_181 kI_X11_isFine kS_X11_isFine rfl (kC_X11.1) smo.c0 rfl rfl (Nat.le_of_ble_eq_true rfl) (by omega) (by decide) (by omega) (by omega) (e_isFine (d := d - 1) smo (xb := true) (by omega)) (q_kC (fun h3 hB => ?_)) q_xC
      obtain ⟨t3_0, pp3⟩ := hB
      have smo3 : z_Mo h3 215 0 al cg sv rs ac rj ro ad bf ln lz ip ty he er ea fa cm cn n mn := t3_0
      have p3 := p0.trans (pp3.wide (by omega) (by omega))
      have hb_mo_cg := smo3.bcg
      have hb_mo_lz := smo3.blz
      have hb_mo_ty := smo3.bty
      have hb_mo_he := smo3.bhe
      have hb_mo_cn := smo3.bcn
      have hb_mo_n := smo3.bn
      have hb_mo_mn := smo3.bmn
      change q_W _ _ _ _ _ _ _ _ 26 [.ref (215), .int (xid)] [.int (1)] _
      refine q_if_eq 52 dX11_canMove_26 (by decide) (fun b26 => ?_) (fun b26 => ?_)
      · exact absurd b26 (by decide)
      · refine q_aload_n (by first | assumption | omega | decide | (rw [q_R0e]; omega)) dX11_canMove_29 rfl ?_
        refine q_getf (k := 1) (v := .ref (216)) kC_X11 kL_X11_9 rfl (by decide) dX11_canMove_30 smo3.c0 rfl ?_
        refine q_iconst (v := 3) dX11_canMove_33 rfl ?_
        refine q_ialdN (j := 3) (f := al) dX11_canMove_34 smo3.c1 (by omega) (by decide) ?_
        rw [smo3.emn]
        change q_W _ _ _ _ _ _ _ _ _ _ [.int (nI (mn))] _
        refine q_bipush (v := 12) dX11_canMove_35 rfl ?_
        refine q_icmp_ge 52 dX11_canMove_37 (by decide) (fun b37 => ?_) (fun b37 => ?_)
        · have b37 := (nI_leI (a := 12) (b := mn) (by omega) (by omega)).mp b37
          refine q_iconst (v := 0) dX11_canMove_52 rfl ?_
          have hE : x_mo_canMove al n mn xid = (false, 0) := by simp only [x_mo_canMove, if_neg b7, if_pos b15, if_pos b37]
          rw [hE]
          exact q_ireturn dX11_canMove_53 rfl rfl (by omega) (by omega) ⟨rfl, smo3, p3⟩
        · have b37 : ¬ (12 ≤ mn) := fun q => b37 ((nI_leI (a := 12) (b := mn) (by omega) (by omega)).mpr q)
          refine q_aload_n (by first | assumption | omega | decide | (rw [q_R0e]; omega)) dX11_canMove_40 rfl ?_
          refine q_iload_n dX11_canMove_41 rfl ?_
          refine q_invV (mc' := 0) (ms' := 0) (d' := d - 1) (as := [.int (xid)]) dX11_canMove_42 kM_X11_isAllowed kL_X11_159 kI_X11_isAllowed kS_X11_isAllowed rfl (kC_X11.1) smo3.c0 rfl rfl (Nat.le_of_ble_eq_true rfl) (by omega) (by decide) (by omega) (by omega) (e_mo_isAllowed (d := d - 1) smo3 xid (by omega) (hlm (by omega)) (by omega) (by omega)) (q_kR ?_) q_xR
          change q_W _ _ _ _ _ _ _ _ 45 [.ref (215), .int (xid)] [.int (z_b (x_mo_isAllowed al n mn xid))] _
          refine q_if_eq 52 dX11_canMove_45 (by decide) (fun b45 => ?_) (fun b45 => ?_)
          · have b45 := z_b0n b45
            refine q_iconst (v := 0) dX11_canMove_52 rfl ?_
            have hE : x_mo_canMove al n mn xid = (false, 0) := by simp only [x_mo_canMove, if_neg b7, if_pos b15, if_neg b37, if_neg b45]
            rw [hE]
            exact q_ireturn dX11_canMove_53 rfl rfl (by omega) (by omega) ⟨rfl, smo3, p3⟩
          · have b45 := z_b1 b45
            refine q_iconst (v := 1) dX11_canMove_48 rfl ?_
            refine q_goto 53 dX11_canMove_49 (by decide) ?_
            have hE : x_mo_canMove al n mn xid = (true, 0) := by simp only [x_mo_canMove, if_neg b7, if_pos b15, if_neg b37, if_pos b45]
            rw [hE]
            exact q_ireturn dX11_canMove_53 rfl rfl (by omega) (by omega) ⟨rfl, smo3, p3⟩
def x_mo_stableCount_9 (al : Nat → Int32) (n : Nat) : Nat → Nat → (Int32) → (Int32)
  | 0, _, c9_1 => c9_1
  | r + 1, k, c9_1 => (if x_mo_isFree al n (nI (k)) then (if ((nI (k)) ||| (x_mo_attackedBy al n (nI (k)))) = (nI (2 ^ n - 1)) then x_mo_stableCount_9 al n r (k + 1) (c9_1 + (1 : Int32)) else x_mo_stableCount_9 al n r (k + 1) (c9_1 + (0 : Int32))) else x_mo_stableCount_9 al n r (k + 1) (c9_1 + (0 : Int32)))
set_option maxRecDepth 100000 in
set_option maxHeartbeats 8000000 in
theorem l_mo_stableCount_9 {g : q_G} {h h1 : q_H} {d mc ms kc ks : Nat} {Q : q_O → q_H → Prop} {al : Nat → Int32} {cg : Nat} {sv : Bool} {rs : Int32} {ac : Int32} {rj : Int32} {ro : Nat → Int32} {ad : Nat → Int32} {bf : Nat → Int32} {ln : Nat → Int32} {lz : Nat} {ip : Nat → Int32} {ty : Nat} {he : Nat} {er : Int32} {ea : Int32} {fa : Int32} {cm : Nat → Int32} {cn : Nat} {n : Nat} {mn : Nat} (smo1 : z_Mo h1 215 0 al cg sv rs ac rj ro ad bf ln lz ip ty he er ea fa cm cn n mn) (p1 : q_same h h1 215 8)  (ho_mo_cg : cg ≤ 8) (ho_mo_lz : lz ≤ 160) (ho_mo_ty : ty ≤ 60) (ho_mo_he : he ≤ 60) (ho_mo_cn : cn ≤ 61) (ho_mo_n : n ≤ 8) (ho_mo_mn : mn ≤ 12)  (hd : 6 ≤ d) (hkc : kc + 0 ≤ mc) (hks : ks + 0 ≤ ms) : ∀ (r k : Nat) (c9_1 : Int32) (hk_9 : k + r = 2 ^ n) (K : ∀ (r9_0 : Int32), x_mo_stableCount_9 al n r k c9_1 = r9_0 → q_W g mX11_stableCount d mc ms Q kc ks 55 [q_u, .int (r9_0), q_u] [] h1), q_W g mX11_stableCount d mc ms Q kc ks 9 [.ref (215), .int (c9_1), .int (nI (k))] [] h1 := by
  intro r
  induction r with
  | zero =>
    intro k c9_1  hk_9 K
    have hb_mo_cg := smo1.bcg
    have hb_mo_lz := smo1.blz
    have hb_mo_ty := smo1.bty
    have hb_mo_he := smo1.bhe
    have hb_mo_cn := smo1.bcn
    have hb_mo_n := smo1.bn
    have hb_mo_mn := smo1.bmn
    refine q_iload_n dX11_stableCount_9 rfl ?_
    refine q_aload_n (by first | assumption | omega | decide | (rw [q_R0e]; omega)) dX11_stableCount_10 rfl ?_
    refine q_invV (mc' := 0) (ms' := 0) (d' := d - 1) (as := []) dX11_stableCount_11 kM_X11_sets kL_X11_96 kI_X11_sets kS_X11_sets rfl (kC_X11.1) smo1.c0 rfl rfl (Nat.le_of_ble_eq_true rfl) (by omega) (by decide) (by omega) (by omega) (e_mo_sets (d := d - 1) smo1 (by omega)) (q_kR ?_) q_xR
    have g3_2 : 2 ^ n ≤ 2 ^ 8 := z_pow8 smo1.bn
    have g3_2p : 1 ≤ 2 ^ n := Nat.one_le_two_pow
    change q_W _ _ _ _ _ _ _ _ 14 [.ref (215), .int (c9_1), .int (nI (k))] [.int (nI (2 ^ n)), .int (nI (k))] _
    refine q_icmp_ge 55 dX11_stableCount_14 (by decide) (fun b14 => ?_) (fun b14 => ?_)
    · have b14 := (nI_leI (a := 2 ^ n) (b := k) (by omega) (by omega)).mp b14
      refine q_forget 0 ?_
      refine q_forget 2 ?_
      change q_W _ _ _ _ _ _ _ _ _ [q_u, .int (c9_1), q_u] [] _
      exact K c9_1 (by simp only [x_mo_stableCount_9])
    · have b14 : ¬ (2 ^ n ≤ k) := fun q => b14 ((nI_leI (a := 2 ^ n) (b := k) (by omega) (by omega)).mpr q)
      exact absurd b14 (by omega)
  | succ r ih =>
    intro k c9_1  hk_9 K
    have hb_mo_cg := smo1.bcg
    have hb_mo_lz := smo1.blz
    have hb_mo_ty := smo1.bty
    have hb_mo_he := smo1.bhe
    have hb_mo_cn := smo1.bcn
    have hb_mo_n := smo1.bn
    have hb_mo_mn := smo1.bmn
    refine q_iload_n dX11_stableCount_9 rfl ?_
    refine q_aload_n (by first | assumption | omega | decide | (rw [q_R0e]; omega)) dX11_stableCount_10 rfl ?_
    refine q_invV (mc' := 0) (ms' := 0) (d' := d - 1) (as := []) dX11_stableCount_11 kM_X11_sets kL_X11_96 kI_X11_sets kS_X11_sets rfl (kC_X11.1) smo1.c0 rfl rfl (Nat.le_of_ble_eq_true rfl) (by omega) (by decide) (by omega) (by omega) (e_mo_sets (d := d - 1) smo1 (by omega)) (q_kR ?_) q_xR
    have g4_2 : 2 ^ n ≤ 2 ^ 8 := z_pow8 smo1.bn
    have g4_2p : 1 ≤ 2 ^ n := Nat.one_le_two_pow
    change q_W _ _ _ _ _ _ _ _ 14 [.ref (215), .int (c9_1), .int (nI (k))] [.int (nI (2 ^ n)), .int (nI (k))] _
    refine q_icmp_ge 55 dX11_stableCount_14 (by decide) (fun b14 => ?_) (fun b14 => ?_)
    · have b14 := (nI_leI (a := 2 ^ n) (b := k) (by omega) (by omega)).mp b14
      exact absurd b14 (by omega)
    · have b14 : ¬ (2 ^ n ≤ k) := fun q => b14 ((nI_leI (a := 2 ^ n) (b := k) (by omega) (by omega)).mpr q)
      refine q_iload_n dX11_stableCount_17 rfl ?_
      refine q_aload_n (by first | assumption | omega | decide | (rw [q_R0e]; omega)) dX11_stableCount_18 rfl ?_
      refine q_iload_n dX11_stableCount_19 rfl ?_
      refine q_invV (mc' := 0) (ms' := 0) (d' := d - 1) (as := [.int (nI (k))]) dX11_stableCount_20 kM_X11_isFree kL_X11_90 kI_X11_isFree kS_X11_isFree rfl (kC_X11.1) smo1.c0 rfl rfl (Nat.le_of_ble_eq_true rfl) (by omega) (by decide) (by omega) (by omega) (e_mo_isFree (d := d - 1) smo1 (nI (k)) (by omega)) (q_kR ?_) q_xR
      change q_W _ _ _ _ _ _ _ _ 23 [.ref (215), .int (c9_1), .int (nI (k))] [.int (z_b (x_mo_isFree al n (nI (k)))), .int (c9_1)] _
      refine q_if_eq 46 dX11_stableCount_23 (by decide) (fun b23 => ?_) (fun b23 => ?_)
      · have b23 := z_b0n b23
        refine q_iconst (v := 0) dX11_stableCount_46 rfl ?_
        refine q_iadd dX11_stableCount_47 ?_
        refine q_istore_n dX11_stableCount_48 (by decide) rfl ?_
        change q_W _ _ _ _ _ _ _ _ _ [.ref (215), .int (c9_1 + (0 : Int32)), .int (nI (k))] [] _
        refine q_iinc (x := nI (k)) (v := nI (k + 1)) dX11_stableCount_49 rfl (nI_add _ 1) rfl ?_
        change q_W _ _ _ _ _ _ _ _ _ [.ref (215), .int (c9_1 + (0 : Int32)), .int (nI (k + 1))] [] _
        refine q_goto 9 dX11_stableCount_52 (by decide) ?_
        change q_W _ _ _ _ _ _ _ _ _ [.ref (215), .int (c9_1 + (0 : Int32)), .int (nI (k + 1))] [] _
        exact ih (k + 1) (c9_1 + (0 : Int32)) (by omega) (fun r9_0 e9 => K r9_0 (by simp only [x_mo_stableCount_9, if_neg b23]; exact e9))
      · have b23 := z_b1 b23
        refine q_iload_n dX11_stableCount_26 rfl ?_
        refine q_aload_n (by first | assumption | omega | decide | (rw [q_R0e]; omega)) dX11_stableCount_27 rfl ?_
        refine q_iload_n dX11_stableCount_28 rfl ?_
        refine q_invV (mc' := 0) (ms' := 0) (d' := d - 1) (as := [.int (nI (k))]) dX11_stableCount_29 kM_X11_attackedBy kL_X11_93 kI_X11_attackedBy kS_X11_attackedBy rfl (kC_X11.1) smo1.c0 rfl rfl (Nat.le_of_ble_eq_true rfl) (by omega) (by decide) (by omega) (by omega) (e_mo_attackedBy (d := d - 1) smo1 (nI (k)) (by omega)) (q_kR ?_) q_xR
        change q_W _ _ _ _ _ _ _ _ 32 [.ref (215), .int (c9_1), .int (nI (k))] [.int (x_mo_attackedBy al n (nI (k))), .int (nI (k)), .int (c9_1)] _
        refine q_ior dX11_stableCount_32 ?_
        refine q_aload_n (by first | assumption | omega | decide | (rw [q_R0e]; omega)) dX11_stableCount_33 rfl ?_
        refine q_invV (mc' := 0) (ms' := 0) (d' := d - 1) (as := []) dX11_stableCount_34 kM_X11_sets kL_X11_96 kI_X11_sets kS_X11_sets rfl (kC_X11.1) smo1.c0 rfl rfl (Nat.le_of_ble_eq_true rfl) (by omega) (by decide) (by omega) (by omega) (e_mo_sets (d := d - 1) smo1 (by omega)) (q_kR ?_) q_xR
        have g5_2 : 2 ^ n ≤ 2 ^ 8 := z_pow8 smo1.bn
        have g5_2p : 1 ≤ 2 ^ n := Nat.one_le_two_pow
        change q_W _ _ _ _ _ _ _ _ 37 [.ref (215), .int (c9_1), .int (nI (k))] [.int (nI (2 ^ n)), .int ((nI (k)) ||| (x_mo_attackedBy al n (nI (k)))), .int (c9_1)] _
        refine q_iconst (v := 1) dX11_stableCount_37 rfl ?_
        refine q_isubN (a := 2 ^ n) (b := 1) (by omega) dX11_stableCount_38 ?_
        refine q_icmp_ne 46 dX11_stableCount_39 (by decide) (fun b39 => ?_) (fun b39 => ?_)
        · refine q_iconst (v := 0) dX11_stableCount_46 rfl ?_
          refine q_iadd dX11_stableCount_47 ?_
          refine q_istore_n dX11_stableCount_48 (by decide) rfl ?_
          change q_W _ _ _ _ _ _ _ _ _ [.ref (215), .int (c9_1 + (0 : Int32)), .int (nI (k))] [] _
          refine q_iinc (x := nI (k)) (v := nI (k + 1)) dX11_stableCount_49 rfl (nI_add _ 1) rfl ?_
          change q_W _ _ _ _ _ _ _ _ _ [.ref (215), .int (c9_1 + (0 : Int32)), .int (nI (k + 1))] [] _
          refine q_goto 9 dX11_stableCount_52 (by decide) ?_
          change q_W _ _ _ _ _ _ _ _ _ [.ref (215), .int (c9_1 + (0 : Int32)), .int (nI (k + 1))] [] _
          exact ih (k + 1) (c9_1 + (0 : Int32)) (by omega) (fun r9_0 e9 => K r9_0 (by simp only [x_mo_stableCount_9, if_pos b23, if_neg b39]; exact e9))
        · refine q_iconst (v := 1) dX11_stableCount_42 rfl ?_
          refine q_goto 47 dX11_stableCount_43 (by decide) ?_
          refine q_iadd dX11_stableCount_47 ?_
          refine q_istore_n dX11_stableCount_48 (by decide) rfl ?_
          change q_W _ _ _ _ _ _ _ _ _ [.ref (215), .int (c9_1 + (1 : Int32)), .int (nI (k))] [] _
          refine q_iinc (x := nI (k)) (v := nI (k + 1)) dX11_stableCount_49 rfl (nI_add _ 1) rfl ?_
          change q_W _ _ _ _ _ _ _ _ _ [.ref (215), .int (c9_1 + (1 : Int32)), .int (nI (k + 1))] [] _
          refine q_goto 9 dX11_stableCount_52 (by decide) ?_
          change q_W _ _ _ _ _ _ _ _ _ [.ref (215), .int (c9_1 + (1 : Int32)), .int (nI (k + 1))] [] _
          exact ih (k + 1) (c9_1 + (1 : Int32)) (by omega) (fun r9_0 e9 => K r9_0 (by simp only [x_mo_stableCount_9, if_pos b23, if_pos b39]; exact e9))
def x_mo_stableCount (al : Nat → Int32) (n : Nat) : (Int32) × (Int32) := (let a6_0 := x_mo_stableCount_9 al n (2 ^ n) 0 0; (a6_0, 0))
set_option maxRecDepth 100000 in
set_option maxHeartbeats 8000000 in
theorem e_mo_stableCount {g : q_G} {h : q_H} {d : Nat} {th : Int32} {al : Nat → Int32} {cg : Nat} {sv : Bool} {rs : Int32} {ac : Int32} {rj : Int32} {ro : Nat → Int32} {ad : Nat → Int32} {bf : Nat → Int32} {ln : Nat → Int32} {lz : Nat} {ip : Nat → Int32} {ty : Nat} {he : Nat} {er : Int32} {ea : Int32} {fa : Int32} {cm : Nat → Int32} {cn : Nat} {n : Nat} {mn : Nat} (smo : z_Mo h 215 th al cg sv rs ac rj ro ad bf ln lz ip ty he er ea fa cm cn n mn)     (hd : 6 ≤ d) : q_Spec g mX11_stableCount d 0 0 [.ref (215)] h (q_chg (.inl (some (.int (x_mo_stableCount al n).1))) (fun h1 => z_Mo h1 215 ((x_mo_stableCount al n).2) al cg sv rs ac rj ro ad bf ln lz ip ty he er ea fa cm cn n mn ∧ q_same h h1 215 8)) := by
  have hb_mo_cg := smo.bcg
  have hb_mo_lz := smo.blz
  have hb_mo_ty := smo.bty
  have hb_mo_he := smo.bhe
  have hb_mo_cn := smo.bcn
  have hb_mo_n := smo.bn
  have hb_mo_mn := smo.bmn
  have ho_mo_cg := smo.bcg
  have ho_mo_lz := smo.blz
  have ho_mo_ty := smo.bty
  have ho_mo_he := smo.bhe
  have ho_mo_cn := smo.bcn
  have ho_mo_n := smo.bn
  have ho_mo_mn := smo.bmn
  have p0 : q_same h h 215 8 := q_same.rfl'
  refine q_enter (by decide +kernel) rfl rfl (Nat.le_of_ble_eq_true rfl) (fun hz => ?_)
  change q_W _ _ _ _ _ _ _ _ _ [.ref (215), q_u, q_u] [] _
  refine q_aload_n (by first | assumption | omega | decide | (rw [q_R0e]; omega)) dX11_stableCount_0 rfl ?_
  refine q_iconst (v := 0) dX11_stableCount_1 rfl ?_
  refine q_putf (k := 0) kC_X11 kL_X11_40 rfl (by decide) rfl dX11_stableCount_2 smo.c0 (Nat.le_of_ble_eq_true rfl) ⟨rfl, rfl⟩ rfl ?_
  refine z_genW (B := fun H => z_Mo H 215 0 al cg sv rs ac rj ro ad bf ln lz ip ty he er ea fa cm cn n mn ∧ q_same h H 215 8) ⟨z_Mo.put0 smo (cg' := cg) (sv' := sv) (lz' := lz) (ty' := ty) (he' := he) (cn' := cn) (hbcg := by first | omega | (split <;> omega)) (hblz := by first | omega | (split <;> omega)) (hbty := by first | omega | (split <;> omega)) (hbhe := by first | omega | (split <;> omega)) (hbcn := by first | omega | (split <;> omega)), p0.trans (q_same.set (by omega) (by omega))⟩ (fun h1 hB => ?_)
  obtain ⟨smo1, p1⟩ := hB
  have hb_mo_cg := smo1.bcg
  have hb_mo_lz := smo1.blz
  have hb_mo_ty := smo1.bty
  have hb_mo_he := smo1.bhe
  have hb_mo_cn := smo1.bcn
  have hb_mo_n := smo1.bn
  have hb_mo_mn := smo1.bmn
  refine q_iconst (v := 0) dX11_stableCount_5 rfl ?_
  refine q_istore_n dX11_stableCount_6 (by decide) rfl ?_
  change q_W _ _ _ _ _ _ _ _ _ [.ref (215), .int (0), q_u] [] _
  refine q_iconst (v := 0) dX11_stableCount_7 rfl ?_
  refine q_istore_n dX11_stableCount_8 (by decide) rfl ?_
  change q_W _ _ _ _ _ _ _ _ _ [.ref (215), .int (0), .int (0)] [] _
  change q_W _ _ _ _ _ _ _ _ _ [.ref (215), .int (0), .int (0)] [] _
  refine l_mo_stableCount_9 smo1 p1 ho_mo_cg ho_mo_lz ho_mo_ty ho_mo_he ho_mo_cn ho_mo_n ho_mo_mn (by omega) (by omega) (by omega) (2 ^ n) 0 0 (by omega) (fun a6_0 x6 => ?_)
  change q_W _ _ _ _ _ _ _ _ 55 [q_u, .int (a6_0), q_u] [] _
  refine q_iload_n dX11_stableCount_55 rfl ?_
  have hE : x_mo_stableCount al n = (a6_0, 0) := by simp only [x_mo_stableCount, x6]
  rw [hE]
  exact q_ireturn dX11_stableCount_56 rfl rfl (by omega) (by omega) ⟨rfl, smo1, p1⟩
def x_mo_stableCountByLabels (al : Nat → Int32) (n : Nat) : (Int32) × (Int32) := (match x_mo_stableCount al n with | (v1, y1_th) => (v1, y1_th))
set_option maxRecDepth 100000 in
set_option maxHeartbeats 8000000 in
theorem e_mo_stableCountByLabels {g : q_G} {h : q_H} {d : Nat} {th : Int32} {al : Nat → Int32} {cg : Nat} {sv : Bool} {rs : Int32} {ac : Int32} {rj : Int32} {ro : Nat → Int32} {ad : Nat → Int32} {bf : Nat → Int32} {ln : Nat → Int32} {lz : Nat} {ip : Nat → Int32} {ty : Nat} {he : Nat} {er : Int32} {ea : Int32} {fa : Int32} {cm : Nat → Int32} {cn : Nat} {n : Nat} {mn : Nat} (smo : z_Mo h 215 th al cg sv rs ac rj ro ad bf ln lz ip ty he er ea fa cm cn n mn)     (hd : 7 ≤ d) : q_Spec g mX11_stableCountByLabels d 0 0 [.ref (215)] h (q_chg (.inl (some (.int (x_mo_stableCountByLabels al n).1))) (fun h1 => z_Mo h1 215 ((x_mo_stableCountByLabels al n).2) al cg sv rs ac rj ro ad bf ln lz ip ty he er ea fa cm cn n mn ∧ q_same h h1 215 8)) := by
  have hb_mo_cg := smo.bcg
  have hb_mo_lz := smo.blz
  have hb_mo_ty := smo.bty
  have hb_mo_he := smo.bhe
  have hb_mo_cn := smo.bcn
  have hb_mo_n := smo.bn
  have hb_mo_mn := smo.bmn
  have ho_mo_cg := smo.bcg
  have ho_mo_lz := smo.blz
  have ho_mo_ty := smo.bty
  have ho_mo_he := smo.bhe
  have ho_mo_cn := smo.bcn
  have ho_mo_n := smo.bn
  have ho_mo_mn := smo.bmn
  have p0 : q_same h h 215 8 := q_same.rfl'
  refine q_enter (by decide +kernel) rfl rfl (Nat.le_of_ble_eq_true rfl) (fun hz => ?_)
  change q_W _ _ _ _ _ _ _ _ _ [.ref (215)] [] _
  refine q_aload_n (by first | assumption | omega | decide | (rw [q_R0e]; omega)) dX11_stableCountByLabels_0 rfl ?_
  rcases x1 : x_mo_stableCount al n with ⟨v1, y1_th⟩
  have e9 := e_mo_stableCount (g := g) (h := h) (d := d - 1) smo (by omega)
  rw [x1] at e9
  refine q_invV (mc' := 0) (ms' := 0) (d' := d - 1) (as := []) dX11_stableCountByLabels_1 kM_X11_stableCount kL_X11_204 kI_X11_stableCount kS_X11_stableCount rfl (kC_X11.1) smo.c0 rfl rfl (Nat.le_of_ble_eq_true rfl) (by omega) (by decide) (by omega) (by omega) (e9) (q_kC (fun h2 hB => ?_)) q_xC
  obtain ⟨t2_0, pp2⟩ := hB
  have smo2 := t2_0
  have p2 := p0.trans (pp2.wide (by omega) (by omega))
  have hb_mo_cg := smo2.bcg
  have hb_mo_lz := smo2.blz
  have hb_mo_ty := smo2.bty
  have hb_mo_he := smo2.bhe
  have hb_mo_cn := smo2.bcn
  have hb_mo_n := smo2.bn
  have hb_mo_mn := smo2.bmn
  change q_W _ _ _ _ _ _ _ _ 4 [.ref (215)] [.int (v1)] _
  have hE : x_mo_stableCountByLabels al n = (v1, y1_th) := by simp only [x_mo_stableCountByLabels, x1]
  rw [hE]
  exact q_ireturn dX11_stableCountByLabels_4 rfl rfl (by omega) (by omega) ⟨rfl, smo2, p2⟩
def x_mo_preferredCount (al : Nat → Int32) (ad : Nat → Int32) (n : Nat) : (Int32) × (Int32) × (Nat → Int32) := (match x_mo_preferredWith al ad n 0 with | (v2, y2_ad) => (v2, 0, y2_ad))
set_option maxRecDepth 100000 in
set_option maxHeartbeats 8000000 in
theorem e_mo_preferredCount {g : q_G} {h : q_H} {d : Nat} {th : Int32} {al : Nat → Int32} {cg : Nat} {sv : Bool} {rs : Int32} {ac : Int32} {rj : Int32} {ro : Nat → Int32} {ad : Nat → Int32} {bf : Nat → Int32} {ln : Nat → Int32} {lz : Nat} {ip : Nat → Int32} {ty : Nat} {he : Nat} {er : Int32} {ea : Int32} {fa : Int32} {cm : Nat → Int32} {cn : Nat} {n : Nat} {mn : Nat} (smo : z_Mo h 215 th al cg sv rs ac rj ro ad bf ln lz ip ty he er ea fa cm cn n mn)   (had : z_01 ad)  (hd : 9 ≤ d) : q_Spec g mX11_preferredCount d 0 0 [.ref (215)] h (q_chg (.inl (some (.int (x_mo_preferredCount al ad n).1))) (fun h1 => z_Mo h1 215 ((x_mo_preferredCount al ad n).2.1) al cg sv rs ac rj ro ((x_mo_preferredCount al ad n).2.2) bf ln lz ip ty he er ea fa cm cn n mn ∧ q_same h h1 215 8)) := by
  have hb_mo_cg := smo.bcg
  have hb_mo_lz := smo.blz
  have hb_mo_ty := smo.bty
  have hb_mo_he := smo.bhe
  have hb_mo_cn := smo.bcn
  have hb_mo_n := smo.bn
  have hb_mo_mn := smo.bmn
  have ho_mo_cg := smo.bcg
  have ho_mo_lz := smo.blz
  have ho_mo_ty := smo.bty
  have ho_mo_he := smo.bhe
  have ho_mo_cn := smo.bcn
  have ho_mo_n := smo.bn
  have ho_mo_mn := smo.bmn
  have p0 : q_same h h 215 8 := q_same.rfl'
  refine q_enter (by decide +kernel) rfl rfl (Nat.le_of_ble_eq_true rfl) (fun hz => ?_)
  change q_W _ _ _ _ _ _ _ _ _ [.ref (215)] [] _
  refine q_aload_n (by first | assumption | omega | decide | (rw [q_R0e]; omega)) dX11_preferredCount_0 rfl ?_
  refine q_iconst (v := 0) dX11_preferredCount_1 rfl ?_
  refine q_putf (k := 0) kC_X11 kL_X11_40 rfl (by decide) rfl dX11_preferredCount_2 smo.c0 (Nat.le_of_ble_eq_true rfl) ⟨rfl, rfl⟩ rfl ?_
  refine z_genW (B := fun H => z_Mo H 215 0 al cg sv rs ac rj ro ad bf ln lz ip ty he er ea fa cm cn n mn ∧ q_same h H 215 8) ⟨z_Mo.put0 smo (cg' := cg) (sv' := sv) (lz' := lz) (ty' := ty) (he' := he) (cn' := cn) (hbcg := by first | omega | (split <;> omega)) (hblz := by first | omega | (split <;> omega)) (hbty := by first | omega | (split <;> omega)) (hbhe := by first | omega | (split <;> omega)) (hbcn := by first | omega | (split <;> omega)), p0.trans (q_same.set (by omega) (by omega))⟩ (fun h1 hB => ?_)
  obtain ⟨smo1, p1⟩ := hB
  have hb_mo_cg := smo1.bcg
  have hb_mo_lz := smo1.blz
  have hb_mo_ty := smo1.bty
  have hb_mo_he := smo1.bhe
  have hb_mo_cn := smo1.bcn
  have hb_mo_n := smo1.bn
  have hb_mo_mn := smo1.bmn
  refine q_aload_n (by first | assumption | omega | decide | (rw [q_R0e]; omega)) dX11_preferredCount_5 rfl ?_
  refine q_iconst (v := 0) dX11_preferredCount_6 rfl ?_
  rcases x2 : x_mo_preferredWith al ad n 0 with ⟨v2, y2_ad⟩
  have e9 := e_mo_preferredWith (g := g) (h := h1) (d := d - 1) smo1 0 (by omega) (by omega)
  rw [x2] at e9
  refine q_invV (mc' := 0) (ms' := 0) (d' := d - 1) (as := [.int (0)]) dX11_preferredCount_7 kM_X11_preferredWith kL_X11_207 kI_X11_preferredWith kS_X11_preferredWith rfl (kC_X11.1) smo1.c0 rfl rfl (Nat.le_of_ble_eq_true rfl) (by omega) (by decide) (by omega) (by omega) (e9) (q_kC (fun h3 hB => ?_)) q_xC
  obtain ⟨t3_0, pp3⟩ := hB
  have smo3 := t3_0
  have p3 := p1.trans (pp3.wide (by omega) (by omega))
  have hb_mo_cg := smo3.bcg
  have hb_mo_lz := smo3.blz
  have hb_mo_ty := smo3.bty
  have hb_mo_he := smo3.bhe
  have hb_mo_cn := smo3.bcn
  have hb_mo_n := smo3.bn
  have hb_mo_mn := smo3.bmn
  change q_W _ _ _ _ _ _ _ _ 10 [.ref (215)] [.int (v2)] _
  have hE : x_mo_preferredCount al ad n = (v2, 0, y2_ad) := by simp only [x_mo_preferredCount, x2]
  rw [hE]
  exact q_ireturn dX11_preferredCount_10 rfl rfl (by omega) (by omega) ⟨rfl, smo3, p3⟩
def x_mo_greatestAdmissible_9 (al : Nat → Int32) (n : Nat) : Nat → Nat → (Int32) → (Int32)
  | 0, _, c9_1 => c9_1
  | r + 1, k, c9_1 => (if (x_mo_size (nI (k))) ≤ (c9_1) then x_mo_greatestAdmissible_9 al n r (k + 1) c9_1 else (if x_mo_isAdmissible al n (nI (k)) then x_mo_greatestAdmissible_9 al n r (k + 1) (x_mo_size (nI (k))) else x_mo_greatestAdmissible_9 al n r (k + 1) c9_1))
set_option maxRecDepth 100000 in
set_option maxHeartbeats 8000000 in
theorem l_mo_greatestAdmissible_9 {g : q_G} {h h1 : q_H} {d mc ms kc ks : Nat} {Q : q_O → q_H → Prop} {al : Nat → Int32} {cg : Nat} {sv : Bool} {rs : Int32} {ac : Int32} {rj : Int32} {ro : Nat → Int32} {ad : Nat → Int32} {bf : Nat → Int32} {ln : Nat → Int32} {lz : Nat} {ip : Nat → Int32} {ty : Nat} {he : Nat} {er : Int32} {ea : Int32} {fa : Int32} {cm : Nat → Int32} {cn : Nat} {n : Nat} {mn : Nat} (smo1 : z_Mo h1 215 0 al cg sv rs ac rj ro ad bf ln lz ip ty he er ea fa cm cn n mn) (p1 : q_same h h1 215 8)  (ho_mo_cg : cg ≤ 8) (ho_mo_lz : lz ≤ 160) (ho_mo_ty : ty ≤ 60) (ho_mo_he : he ≤ 60) (ho_mo_cn : cn ≤ 61) (ho_mo_n : n ≤ 8) (ho_mo_mn : mn ≤ 12)  (hd : 7 ≤ d) (hkc : kc + 0 ≤ mc) (hks : ks + 0 ≤ ms) : ∀ (r k : Nat) (c9_1 : Int32) (hk_9 : k + r = 2 ^ n) (K : ∀ (r9_0 : Int32), x_mo_greatestAdmissible_9 al n r k c9_1 = r9_0 → q_W g mX11_greatestAdmissible d mc ms Q kc ks 48 [q_u, .int (r9_0), q_u] [] h1), q_W g mX11_greatestAdmissible d mc ms Q kc ks 9 [.ref (215), .int (c9_1), .int (nI (k))] [] h1 := by
  intro r
  induction r with
  | zero =>
    intro k c9_1  hk_9 K
    have hb_mo_cg := smo1.bcg
    have hb_mo_lz := smo1.blz
    have hb_mo_ty := smo1.bty
    have hb_mo_he := smo1.bhe
    have hb_mo_cn := smo1.bcn
    have hb_mo_n := smo1.bn
    have hb_mo_mn := smo1.bmn
    refine q_iload_n dX11_greatestAdmissible_9 rfl ?_
    refine q_aload_n (by first | assumption | omega | decide | (rw [q_R0e]; omega)) dX11_greatestAdmissible_10 rfl ?_
    refine q_invV (mc' := 0) (ms' := 0) (d' := d - 1) (as := []) dX11_greatestAdmissible_11 kM_X11_sets kL_X11_96 kI_X11_sets kS_X11_sets rfl (kC_X11.1) smo1.c0 rfl rfl (Nat.le_of_ble_eq_true rfl) (by omega) (by decide) (by omega) (by omega) (e_mo_sets (d := d - 1) smo1 (by omega)) (q_kR ?_) q_xR
    have g3_2 : 2 ^ n ≤ 2 ^ 8 := z_pow8 smo1.bn
    have g3_2p : 1 ≤ 2 ^ n := Nat.one_le_two_pow
    change q_W _ _ _ _ _ _ _ _ 14 [.ref (215), .int (c9_1), .int (nI (k))] [.int (nI (2 ^ n)), .int (nI (k))] _
    refine q_icmp_ge 48 dX11_greatestAdmissible_14 (by decide) (fun b14 => ?_) (fun b14 => ?_)
    · have b14 := (nI_leI (a := 2 ^ n) (b := k) (by omega) (by omega)).mp b14
      refine q_forget 0 ?_
      refine q_forget 2 ?_
      change q_W _ _ _ _ _ _ _ _ _ [q_u, .int (c9_1), q_u] [] _
      exact K c9_1 (by simp only [x_mo_greatestAdmissible_9])
    · have b14 : ¬ (2 ^ n ≤ k) := fun q => b14 ((nI_leI (a := 2 ^ n) (b := k) (by omega) (by omega)).mpr q)
      exact absurd b14 (by omega)
  | succ r ih =>
    intro k c9_1  hk_9 K
    have hb_mo_cg := smo1.bcg
    have hb_mo_lz := smo1.blz
    have hb_mo_ty := smo1.bty
    have hb_mo_he := smo1.bhe
    have hb_mo_cn := smo1.bcn
    have hb_mo_n := smo1.bn
    have hb_mo_mn := smo1.bmn
    refine q_iload_n dX11_greatestAdmissible_9 rfl ?_
    refine q_aload_n (by first | assumption | omega | decide | (rw [q_R0e]; omega)) dX11_greatestAdmissible_10 rfl ?_
    refine q_invV (mc' := 0) (ms' := 0) (d' := d - 1) (as := []) dX11_greatestAdmissible_11 kM_X11_sets kL_X11_96 kI_X11_sets kS_X11_sets rfl (kC_X11.1) smo1.c0 rfl rfl (Nat.le_of_ble_eq_true rfl) (by omega) (by decide) (by omega) (by omega) (e_mo_sets (d := d - 1) smo1 (by omega)) (q_kR ?_) q_xR
    have g4_2 : 2 ^ n ≤ 2 ^ 8 := z_pow8 smo1.bn
    have g4_2p : 1 ≤ 2 ^ n := Nat.one_le_two_pow
    change q_W _ _ _ _ _ _ _ _ 14 [.ref (215), .int (c9_1), .int (nI (k))] [.int (nI (2 ^ n)), .int (nI (k))] _
    refine q_icmp_ge 48 dX11_greatestAdmissible_14 (by decide) (fun b14 => ?_) (fun b14 => ?_)
    · have b14 := (nI_leI (a := 2 ^ n) (b := k) (by omega) (by omega)).mp b14
      exact absurd b14 (by omega)
    · have b14 : ¬ (2 ^ n ≤ k) := fun q => b14 ((nI_leI (a := 2 ^ n) (b := k) (by omega) (by omega)).mpr q)
      refine q_iload_n dX11_greatestAdmissible_17 rfl ?_
      refine q_invS (mc' := 0) (ms' := 0) (d' := d - 1) (as := [.int (nI (k))]) dX11_greatestAdmissible_18 kM_X11_size kL_X11_68 kT_X11_size rfl rfl rfl (Nat.le_of_ble_eq_true rfl) (by omega) (by decide) (by omega) (by omega) (e_mo_size (d := d - 1) (nI (k)) (by omega)) (q_kR ?_) q_xR
      change q_W _ _ _ _ _ _ _ _ 21 [.ref (215), .int (c9_1), .int (nI (k))] [.int (x_mo_size (nI (k)))] _
      refine q_iload_n dX11_greatestAdmissible_21 rfl ?_
      refine q_icmp_le 40 dX11_greatestAdmissible_22 (by decide) (fun b22 => ?_) (fun b22 => ?_)
      · refine q_iload_n dX11_greatestAdmissible_40 rfl ?_
        refine q_istore_n dX11_greatestAdmissible_41 (by decide) rfl ?_
        change q_W _ _ _ _ _ _ _ _ _ [.ref (215), .int (c9_1), .int (nI (k))] [] _
        refine q_iinc (x := nI (k)) (v := nI (k + 1)) dX11_greatestAdmissible_42 rfl (nI_add _ 1) rfl ?_
        change q_W _ _ _ _ _ _ _ _ _ [.ref (215), .int (c9_1), .int (nI (k + 1))] [] _
        refine q_goto 9 dX11_greatestAdmissible_45 (by decide) ?_
        change q_W _ _ _ _ _ _ _ _ _ [.ref (215), .int (c9_1), .int (nI (k + 1))] [] _
        exact ih (k + 1) c9_1 (by omega) (fun r9_0 e9 => K r9_0 (by simp only [x_mo_greatestAdmissible_9, if_pos b22]; exact e9))
      · refine q_aload_n (by first | assumption | omega | decide | (rw [q_R0e]; omega)) dX11_greatestAdmissible_25 rfl ?_
        refine q_iload_n dX11_greatestAdmissible_26 rfl ?_
        refine q_invV (mc' := 0) (ms' := 0) (d' := d - 1) (as := [.int (nI (k))]) dX11_greatestAdmissible_27 kM_X11_isAdmissible kL_X11_100 kI_X11_isAdmissible kS_X11_isAdmissible rfl (kC_X11.1) smo1.c0 rfl rfl (Nat.le_of_ble_eq_true rfl) (by omega) (by decide) (by omega) (by omega) (e_mo_isAdmissible (d := d - 1) smo1 (nI (k)) (by omega)) (q_kR ?_) q_xR
        change q_W _ _ _ _ _ _ _ _ 30 [.ref (215), .int (c9_1), .int (nI (k))] [.int (z_b (x_mo_isAdmissible al n (nI (k))))] _
        refine q_if_eq 40 dX11_greatestAdmissible_30 (by decide) (fun b30 => ?_) (fun b30 => ?_)
        · have b30 := z_b0n b30
          refine q_iload_n dX11_greatestAdmissible_40 rfl ?_
          refine q_istore_n dX11_greatestAdmissible_41 (by decide) rfl ?_
          change q_W _ _ _ _ _ _ _ _ _ [.ref (215), .int (c9_1), .int (nI (k))] [] _
          refine q_iinc (x := nI (k)) (v := nI (k + 1)) dX11_greatestAdmissible_42 rfl (nI_add _ 1) rfl ?_
          change q_W _ _ _ _ _ _ _ _ _ [.ref (215), .int (c9_1), .int (nI (k + 1))] [] _
          refine q_goto 9 dX11_greatestAdmissible_45 (by decide) ?_
          change q_W _ _ _ _ _ _ _ _ _ [.ref (215), .int (c9_1), .int (nI (k + 1))] [] _
          exact ih (k + 1) c9_1 (by omega) (fun r9_0 e9 => K r9_0 (by simp only [x_mo_greatestAdmissible_9, if_neg b22, if_neg b30]; exact e9))
        · have b30 := z_b1 b30
          refine q_iload_n dX11_greatestAdmissible_33 rfl ?_
          refine q_invS (mc' := 0) (ms' := 0) (d' := d - 1) (as := [.int (nI (k))]) dX11_greatestAdmissible_34 kM_X11_size kL_X11_68 kT_X11_size rfl rfl rfl (Nat.le_of_ble_eq_true rfl) (by omega) (by decide) (by omega) (by omega) (e_mo_size (d := d - 1) (nI (k)) (by omega)) (q_kR ?_) q_xR
          change q_W _ _ _ _ _ _ _ _ 37 [.ref (215), .int (c9_1), .int (nI (k))] [.int (x_mo_size (nI (k)))] _
          refine q_goto 41 dX11_greatestAdmissible_37 (by decide) ?_
          refine q_istore_n dX11_greatestAdmissible_41 (by decide) rfl ?_
          change q_W _ _ _ _ _ _ _ _ _ [.ref (215), .int (x_mo_size (nI (k))), .int (nI (k))] [] _
          refine q_iinc (x := nI (k)) (v := nI (k + 1)) dX11_greatestAdmissible_42 rfl (nI_add _ 1) rfl ?_
          change q_W _ _ _ _ _ _ _ _ _ [.ref (215), .int (x_mo_size (nI (k))), .int (nI (k + 1))] [] _
          refine q_goto 9 dX11_greatestAdmissible_45 (by decide) ?_
          change q_W _ _ _ _ _ _ _ _ _ [.ref (215), .int (x_mo_size (nI (k))), .int (nI (k + 1))] [] _
          exact ih (k + 1) (x_mo_size (nI (k))) (by omega) (fun r9_0 e9 => K r9_0 (by simp only [x_mo_greatestAdmissible_9, if_neg b22, if_pos b30]; exact e9))
def x_mo_greatestAdmissible (al : Nat → Int32) (n : Nat) : (Int32) × (Int32) := (let a5_0 := x_mo_greatestAdmissible_9 al n (2 ^ n) 0 0; (a5_0, 0))
set_option maxRecDepth 100000 in
set_option maxHeartbeats 8000000 in
theorem e_mo_greatestAdmissible {g : q_G} {h : q_H} {d : Nat} {th : Int32} {al : Nat → Int32} {cg : Nat} {sv : Bool} {rs : Int32} {ac : Int32} {rj : Int32} {ro : Nat → Int32} {ad : Nat → Int32} {bf : Nat → Int32} {ln : Nat → Int32} {lz : Nat} {ip : Nat → Int32} {ty : Nat} {he : Nat} {er : Int32} {ea : Int32} {fa : Int32} {cm : Nat → Int32} {cn : Nat} {n : Nat} {mn : Nat} (smo : z_Mo h 215 th al cg sv rs ac rj ro ad bf ln lz ip ty he er ea fa cm cn n mn)     (hd : 7 ≤ d) : q_Spec g mX11_greatestAdmissible d 0 0 [.ref (215)] h (q_chg (.inl (some (.int (x_mo_greatestAdmissible al n).1))) (fun h1 => z_Mo h1 215 ((x_mo_greatestAdmissible al n).2) al cg sv rs ac rj ro ad bf ln lz ip ty he er ea fa cm cn n mn ∧ q_same h h1 215 8)) := by
  have hb_mo_cg := smo.bcg
  have hb_mo_lz := smo.blz
  have hb_mo_ty := smo.bty
  have hb_mo_he := smo.bhe
  have hb_mo_cn := smo.bcn
  have hb_mo_n := smo.bn
  have hb_mo_mn := smo.bmn
  have ho_mo_cg := smo.bcg
  have ho_mo_lz := smo.blz
  have ho_mo_ty := smo.bty
  have ho_mo_he := smo.bhe
  have ho_mo_cn := smo.bcn
  have ho_mo_n := smo.bn
  have ho_mo_mn := smo.bmn
  have p0 : q_same h h 215 8 := q_same.rfl'
  refine q_enter (by decide +kernel) rfl rfl (Nat.le_of_ble_eq_true rfl) (fun hz => ?_)
  change q_W _ _ _ _ _ _ _ _ _ [.ref (215), q_u, q_u] [] _
  refine q_aload_n (by first | assumption | omega | decide | (rw [q_R0e]; omega)) dX11_greatestAdmissible_0 rfl ?_
  refine q_iconst (v := 0) dX11_greatestAdmissible_1 rfl ?_
  refine q_putf (k := 0) kC_X11 kL_X11_40 rfl (by decide) rfl dX11_greatestAdmissible_2 smo.c0 (Nat.le_of_ble_eq_true rfl) ⟨rfl, rfl⟩ rfl ?_
  refine z_genW (B := fun H => z_Mo H 215 0 al cg sv rs ac rj ro ad bf ln lz ip ty he er ea fa cm cn n mn ∧ q_same h H 215 8) ⟨z_Mo.put0 smo (cg' := cg) (sv' := sv) (lz' := lz) (ty' := ty) (he' := he) (cn' := cn) (hbcg := by first | omega | (split <;> omega)) (hblz := by first | omega | (split <;> omega)) (hbty := by first | omega | (split <;> omega)) (hbhe := by first | omega | (split <;> omega)) (hbcn := by first | omega | (split <;> omega)), p0.trans (q_same.set (by omega) (by omega))⟩ (fun h1 hB => ?_)
  obtain ⟨smo1, p1⟩ := hB
  have hb_mo_cg := smo1.bcg
  have hb_mo_lz := smo1.blz
  have hb_mo_ty := smo1.bty
  have hb_mo_he := smo1.bhe
  have hb_mo_cn := smo1.bcn
  have hb_mo_n := smo1.bn
  have hb_mo_mn := smo1.bmn
  refine q_iconst (v := 0) dX11_greatestAdmissible_5 rfl ?_
  refine q_istore_n dX11_greatestAdmissible_6 (by decide) rfl ?_
  change q_W _ _ _ _ _ _ _ _ _ [.ref (215), .int (0), q_u] [] _
  refine q_iconst (v := 0) dX11_greatestAdmissible_7 rfl ?_
  refine q_istore_n dX11_greatestAdmissible_8 (by decide) rfl ?_
  change q_W _ _ _ _ _ _ _ _ _ [.ref (215), .int (0), .int (0)] [] _
  change q_W _ _ _ _ _ _ _ _ _ [.ref (215), .int (0), .int (0)] [] _
  refine l_mo_greatestAdmissible_9 smo1 p1 ho_mo_cg ho_mo_lz ho_mo_ty ho_mo_he ho_mo_cn ho_mo_n ho_mo_mn (by omega) (by omega) (by omega) (2 ^ n) 0 0 (by omega) (fun a5_0 x5 => ?_)
  change q_W _ _ _ _ _ _ _ _ 48 [q_u, .int (a5_0), q_u] [] _
  refine q_iload_n dX11_greatestAdmissible_48 rfl ?_
  have hE : x_mo_greatestAdmissible al n = (a5_0, 0) := by simp only [x_mo_greatestAdmissible, x5]
  rw [hE]
  exact q_ireturn dX11_greatestAdmissible_49 rfl rfl (by omega) (by omega) ⟨rfl, smo1, p1⟩
def x_mo_isConsistent  : (Bool) × (Int32) := (true, 0)
set_option maxRecDepth 100000 in
set_option maxHeartbeats 8000000 in
theorem e_mo_isConsistent {g : q_G} {h : q_H} {d : Nat} {th : Int32} {al : Nat → Int32} {cg : Nat} {sv : Bool} {rs : Int32} {ac : Int32} {rj : Int32} {ro : Nat → Int32} {ad : Nat → Int32} {bf : Nat → Int32} {ln : Nat → Int32} {lz : Nat} {ip : Nat → Int32} {ty : Nat} {he : Nat} {er : Int32} {ea : Int32} {fa : Int32} {cm : Nat → Int32} {cn : Nat} {n : Nat} {mn : Nat} (smo : z_Mo h 215 th al cg sv rs ac rj ro ad bf ln lz ip ty he er ea fa cm cn n mn)     (hd : 0 ≤ d) : q_Spec g mX11_isConsistent d 0 0 [.ref (215)] h (q_chg (.inl (some (.int (z_b x_mo_isConsistent.1)))) (fun h1 => z_Mo h1 215 x_mo_isConsistent.2 al cg sv rs ac rj ro ad bf ln lz ip ty he er ea fa cm cn n mn ∧ q_same h h1 215 8)) := by
  have hb_mo_cg := smo.bcg
  have hb_mo_lz := smo.blz
  have hb_mo_ty := smo.bty
  have hb_mo_he := smo.bhe
  have hb_mo_cn := smo.bcn
  have hb_mo_n := smo.bn
  have hb_mo_mn := smo.bmn
  have ho_mo_cg := smo.bcg
  have ho_mo_lz := smo.blz
  have ho_mo_ty := smo.bty
  have ho_mo_he := smo.bhe
  have ho_mo_cn := smo.bcn
  have ho_mo_n := smo.bn
  have ho_mo_mn := smo.bmn
  have p0 : q_same h h 215 8 := q_same.rfl'
  refine q_enter (by decide +kernel) rfl rfl (Nat.le_of_ble_eq_true rfl) (fun hz => ?_)
  change q_W _ _ _ _ _ _ _ _ _ [.ref (215)] [] _
  refine q_aload_n (by first | assumption | omega | decide | (rw [q_R0e]; omega)) dX11_isConsistent_0 rfl ?_
  refine q_iconst (v := 0) dX11_isConsistent_1 rfl ?_
  refine q_putf (k := 0) kC_X11 kL_X11_40 rfl (by decide) rfl dX11_isConsistent_2 smo.c0 (Nat.le_of_ble_eq_true rfl) ⟨rfl, rfl⟩ rfl ?_
  refine z_genW (B := fun H => z_Mo H 215 0 al cg sv rs ac rj ro ad bf ln lz ip ty he er ea fa cm cn n mn ∧ q_same h H 215 8) ⟨z_Mo.put0 smo (cg' := cg) (sv' := sv) (lz' := lz) (ty' := ty) (he' := he) (cn' := cn) (hbcg := by first | omega | (split <;> omega)) (hblz := by first | omega | (split <;> omega)) (hbty := by first | omega | (split <;> omega)) (hbhe := by first | omega | (split <;> omega)) (hbcn := by first | omega | (split <;> omega)), p0.trans (q_same.set (by omega) (by omega))⟩ (fun h1 hB => ?_)
  obtain ⟨smo1, p1⟩ := hB
  have hb_mo_cg := smo1.bcg
  have hb_mo_lz := smo1.blz
  have hb_mo_ty := smo1.bty
  have hb_mo_he := smo1.bhe
  have hb_mo_cn := smo1.bcn
  have hb_mo_n := smo1.bn
  have hb_mo_mn := smo1.bmn
  refine q_iconst (v := 1) dX11_isConsistent_5 rfl ?_
  have hE : x_mo_isConsistent  = (true, 0) := by simp only [x_mo_isConsistent]
  rw [hE]
  exact q_ireturn dX11_isConsistent_6 rfl rfl (by omega) (by omega) ⟨rfl, smo1, p1⟩
def x_mo_errorPosition (ea : Int32) : (Int32) × (Int32) := (if (ea) = (-1) then (0, 1) else (ea, 0))
set_option maxRecDepth 100000 in
set_option maxHeartbeats 8000000 in
theorem e_mo_errorPosition {g : q_G} {h : q_H} {d : Nat} {th : Int32} {al : Nat → Int32} {cg : Nat} {sv : Bool} {rs : Int32} {ac : Int32} {rj : Int32} {ro : Nat → Int32} {ad : Nat → Int32} {bf : Nat → Int32} {ln : Nat → Int32} {lz : Nat} {ip : Nat → Int32} {ty : Nat} {he : Nat} {er : Int32} {ea : Int32} {fa : Int32} {cm : Nat → Int32} {cn : Nat} {n : Nat} {mn : Nat} (smo : z_Mo h 215 th al cg sv rs ac rj ro ad bf ln lz ip ty he er ea fa cm cn n mn)     (hd : 1 ≤ d) : q_Spec g mX11_errorPosition d 0 0 [.ref (215)] h (q_chg (.inl (some (.int (x_mo_errorPosition ea).1))) (fun h1 => z_Mo h1 215 ((x_mo_errorPosition ea).2) al cg sv rs ac rj ro ad bf ln lz ip ty he er ea fa cm cn n mn ∧ q_same h h1 215 8)) := by
  have hb_mo_cg := smo.bcg
  have hb_mo_lz := smo.blz
  have hb_mo_ty := smo.bty
  have hb_mo_he := smo.bhe
  have hb_mo_cn := smo.bcn
  have hb_mo_n := smo.bn
  have hb_mo_mn := smo.bmn
  have ho_mo_cg := smo.bcg
  have ho_mo_lz := smo.blz
  have ho_mo_ty := smo.bty
  have ho_mo_he := smo.bhe
  have ho_mo_cn := smo.bcn
  have ho_mo_n := smo.bn
  have ho_mo_mn := smo.bmn
  have p0 : q_same h h 215 8 := q_same.rfl'
  refine q_enter (by decide +kernel) rfl rfl (Nat.le_of_ble_eq_true rfl) (fun hz => ?_)
  change q_W _ _ _ _ _ _ _ _ _ [.ref (215)] [] _
  refine q_aload_n (by first | assumption | omega | decide | (rw [q_R0e]; omega)) dX11_errorPosition_0 rfl ?_
  refine q_aload_n (by first | assumption | omega | decide | (rw [q_R0e]; omega)) dX11_errorPosition_1 rfl ?_
  refine q_getf (k := 16) (v := .int (ea)) kC_X11 kL_X11_30 rfl (by decide) dX11_errorPosition_2 smo.c0 rfl ?_
  refine q_iconst (v := -1) dX11_errorPosition_5 rfl ?_
  refine q_icmp_eq 13 dX11_errorPosition_6 (by decide) (fun b6 => ?_) (fun b6 => ?_)
  · refine q_iconst (v := 0) dX11_errorPosition_13 rfl ?_
    refine q_invV (mc' := 0) (ms' := 0) (d' := d - 1) (as := [.int (0)]) dX11_errorPosition_14 kM_X11_isFine kL_X11_181 kI_X11_isFine kS_X11_isFine rfl (kC_X11.1) smo.c0 rfl rfl (Nat.le_of_ble_eq_true rfl) (by omega) (by decide) (by omega) (by omega) (e_isFine (d := d - 1) smo (xb := false) (by omega)) (q_kC (fun h1 hB => ?_)) q_xC
    obtain ⟨t1_0, pp1⟩ := hB
    have smo1 : z_Mo h1 215 1 al cg sv rs ac rj ro ad bf ln lz ip ty he er ea fa cm cn n mn := t1_0
    have p1 := p0.trans (pp1.wide (by omega) (by omega))
    have hb_mo_cg := smo1.bcg
    have hb_mo_lz := smo1.blz
    have hb_mo_ty := smo1.bty
    have hb_mo_he := smo1.bhe
    have hb_mo_cn := smo1.bcn
    have hb_mo_n := smo1.bn
    have hb_mo_mn := smo1.bmn
    change q_W _ _ _ _ _ _ _ _ 17 [.ref (215)] [.int (0)] _
    refine q_if_eq 27 dX11_errorPosition_17 (by decide) (fun b17 => ?_) (fun b17 => ?_)
    · refine q_iconst (v := 0) dX11_errorPosition_27 rfl ?_
      have hE : x_mo_errorPosition ea = (0, 1) := by simp only [x_mo_errorPosition, if_pos b6]
      rw [hE]
      exact q_ireturn dX11_errorPosition_28 rfl rfl (by omega) (by omega) ⟨rfl, smo1, p1⟩
    · exact absurd (by decide) b17
  · refine q_iconst (v := 1) dX11_errorPosition_9 rfl ?_
    refine q_goto 14 dX11_errorPosition_10 (by decide) ?_
    refine q_invV (mc' := 0) (ms' := 0) (d' := d - 1) (as := [.int (1)]) dX11_errorPosition_14 kM_X11_isFine kL_X11_181 kI_X11_isFine kS_X11_isFine rfl (kC_X11.1) smo.c0 rfl rfl (Nat.le_of_ble_eq_true rfl) (by omega) (by decide) (by omega) (by omega) (e_isFine (d := d - 1) smo (xb := true) (by omega)) (q_kC (fun h2 hB => ?_)) q_xC
    obtain ⟨t2_0, pp2⟩ := hB
    have smo2 : z_Mo h2 215 0 al cg sv rs ac rj ro ad bf ln lz ip ty he er ea fa cm cn n mn := t2_0
    have p2 := p0.trans (pp2.wide (by omega) (by omega))
    have hb_mo_cg := smo2.bcg
    have hb_mo_lz := smo2.blz
    have hb_mo_ty := smo2.bty
    have hb_mo_he := smo2.bhe
    have hb_mo_cn := smo2.bcn
    have hb_mo_n := smo2.bn
    have hb_mo_mn := smo2.bmn
    change q_W _ _ _ _ _ _ _ _ 17 [.ref (215)] [.int (1)] _
    refine q_if_eq 27 dX11_errorPosition_17 (by decide) (fun b17 => ?_) (fun b17 => ?_)
    · exact absurd b17 (by decide)
    · refine q_aload_n (by first | assumption | omega | decide | (rw [q_R0e]; omega)) dX11_errorPosition_20 rfl ?_
      refine q_getf (k := 16) (v := .int (ea)) kC_X11 kL_X11_30 rfl (by decide) dX11_errorPosition_21 smo2.c0 rfl ?_
      refine q_goto 28 dX11_errorPosition_24 (by decide) ?_
      have hE : x_mo_errorPosition ea = (ea, 0) := by simp only [x_mo_errorPosition, if_neg b6]
      rw [hE]
      exact q_ireturn dX11_errorPosition_28 rfl rfl (by omega) (by omega) ⟨rfl, smo2, p2⟩
def x_mo_failedCommand (fa : Int32) : (Int32) × (Int32) := (if (fa) = (-1) then (0, 1) else (fa, 0))
set_option maxRecDepth 100000 in
set_option maxHeartbeats 8000000 in
theorem e_mo_failedCommand {g : q_G} {h : q_H} {d : Nat} {th : Int32} {al : Nat → Int32} {cg : Nat} {sv : Bool} {rs : Int32} {ac : Int32} {rj : Int32} {ro : Nat → Int32} {ad : Nat → Int32} {bf : Nat → Int32} {ln : Nat → Int32} {lz : Nat} {ip : Nat → Int32} {ty : Nat} {he : Nat} {er : Int32} {ea : Int32} {fa : Int32} {cm : Nat → Int32} {cn : Nat} {n : Nat} {mn : Nat} (smo : z_Mo h 215 th al cg sv rs ac rj ro ad bf ln lz ip ty he er ea fa cm cn n mn)     (hd : 1 ≤ d) : q_Spec g mX11_failedCommand d 0 0 [.ref (215)] h (q_chg (.inl (some (.int (x_mo_failedCommand fa).1))) (fun h1 => z_Mo h1 215 ((x_mo_failedCommand fa).2) al cg sv rs ac rj ro ad bf ln lz ip ty he er ea fa cm cn n mn ∧ q_same h h1 215 8)) := by
  have hb_mo_cg := smo.bcg
  have hb_mo_lz := smo.blz
  have hb_mo_ty := smo.bty
  have hb_mo_he := smo.bhe
  have hb_mo_cn := smo.bcn
  have hb_mo_n := smo.bn
  have hb_mo_mn := smo.bmn
  have ho_mo_cg := smo.bcg
  have ho_mo_lz := smo.blz
  have ho_mo_ty := smo.bty
  have ho_mo_he := smo.bhe
  have ho_mo_cn := smo.bcn
  have ho_mo_n := smo.bn
  have ho_mo_mn := smo.bmn
  have p0 : q_same h h 215 8 := q_same.rfl'
  refine q_enter (by decide +kernel) rfl rfl (Nat.le_of_ble_eq_true rfl) (fun hz => ?_)
  change q_W _ _ _ _ _ _ _ _ _ [.ref (215)] [] _
  refine q_aload_n (by first | assumption | omega | decide | (rw [q_R0e]; omega)) dX11_failedCommand_0 rfl ?_
  refine q_aload_n (by first | assumption | omega | decide | (rw [q_R0e]; omega)) dX11_failedCommand_1 rfl ?_
  refine q_getf (k := 17) (v := .int (fa)) kC_X11 kL_X11_34 rfl (by decide) dX11_failedCommand_2 smo.c0 rfl ?_
  refine q_iconst (v := -1) dX11_failedCommand_5 rfl ?_
  refine q_icmp_eq 13 dX11_failedCommand_6 (by decide) (fun b6 => ?_) (fun b6 => ?_)
  · refine q_iconst (v := 0) dX11_failedCommand_13 rfl ?_
    refine q_invV (mc' := 0) (ms' := 0) (d' := d - 1) (as := [.int (0)]) dX11_failedCommand_14 kM_X11_isFine kL_X11_181 kI_X11_isFine kS_X11_isFine rfl (kC_X11.1) smo.c0 rfl rfl (Nat.le_of_ble_eq_true rfl) (by omega) (by decide) (by omega) (by omega) (e_isFine (d := d - 1) smo (xb := false) (by omega)) (q_kC (fun h1 hB => ?_)) q_xC
    obtain ⟨t1_0, pp1⟩ := hB
    have smo1 : z_Mo h1 215 1 al cg sv rs ac rj ro ad bf ln lz ip ty he er ea fa cm cn n mn := t1_0
    have p1 := p0.trans (pp1.wide (by omega) (by omega))
    have hb_mo_cg := smo1.bcg
    have hb_mo_lz := smo1.blz
    have hb_mo_ty := smo1.bty
    have hb_mo_he := smo1.bhe
    have hb_mo_cn := smo1.bcn
    have hb_mo_n := smo1.bn
    have hb_mo_mn := smo1.bmn
    change q_W _ _ _ _ _ _ _ _ 17 [.ref (215)] [.int (0)] _
    refine q_if_eq 27 dX11_failedCommand_17 (by decide) (fun b17 => ?_) (fun b17 => ?_)
    · refine q_iconst (v := 0) dX11_failedCommand_27 rfl ?_
      have hE : x_mo_failedCommand fa = (0, 1) := by simp only [x_mo_failedCommand, if_pos b6]
      rw [hE]
      exact q_ireturn dX11_failedCommand_28 rfl rfl (by omega) (by omega) ⟨rfl, smo1, p1⟩
    · exact absurd (by decide) b17
  · refine q_iconst (v := 1) dX11_failedCommand_9 rfl ?_
    refine q_goto 14 dX11_failedCommand_10 (by decide) ?_
    refine q_invV (mc' := 0) (ms' := 0) (d' := d - 1) (as := [.int (1)]) dX11_failedCommand_14 kM_X11_isFine kL_X11_181 kI_X11_isFine kS_X11_isFine rfl (kC_X11.1) smo.c0 rfl rfl (Nat.le_of_ble_eq_true rfl) (by omega) (by decide) (by omega) (by omega) (e_isFine (d := d - 1) smo (xb := true) (by omega)) (q_kC (fun h2 hB => ?_)) q_xC
    obtain ⟨t2_0, pp2⟩ := hB
    have smo2 : z_Mo h2 215 0 al cg sv rs ac rj ro ad bf ln lz ip ty he er ea fa cm cn n mn := t2_0
    have p2 := p0.trans (pp2.wide (by omega) (by omega))
    have hb_mo_cg := smo2.bcg
    have hb_mo_lz := smo2.blz
    have hb_mo_ty := smo2.bty
    have hb_mo_he := smo2.bhe
    have hb_mo_cn := smo2.bcn
    have hb_mo_n := smo2.bn
    have hb_mo_mn := smo2.bmn
    change q_W _ _ _ _ _ _ _ _ 17 [.ref (215)] [.int (1)] _
    refine q_if_eq 27 dX11_failedCommand_17 (by decide) (fun b17 => ?_) (fun b17 => ?_)
    · exact absurd b17 (by decide)
    · refine q_aload_n (by first | assumption | omega | decide | (rw [q_R0e]; omega)) dX11_failedCommand_20 rfl ?_
      refine q_getf (k := 17) (v := .int (fa)) kC_X11 kL_X11_34 rfl (by decide) dX11_failedCommand_21 smo2.c0 rfl ?_
      refine q_goto 28 dX11_failedCommand_24 (by decide) ?_
      have hE : x_mo_failedCommand fa = (fa, 0) := by simp only [x_mo_failedCommand, if_neg b6]
      rw [hE]
      exact q_ireturn dX11_failedCommand_28 rfl rfl (by omega) (by omega) ⟨rfl, smo2, p2⟩
def x_mo_undo (al : Nat → Int32) (cg : Nat) : (Int32) × (Int32) × (Nat → Int32) × (Nat) := (if cg ≤ 0 then (0, 1, al, cg) else (nI (cg - 1), 0, x_cp al cg 0, cg - 1))
set_option maxRecDepth 100000 in
set_option maxHeartbeats 8000000 in
theorem e_mo_undo {g : q_G} {h : q_H} {d : Nat} {th : Int32} {al : Nat → Int32} {cg : Nat} {sv : Bool} {rs : Int32} {ac : Int32} {rj : Int32} {ro : Nat → Int32} {ad : Nat → Int32} {bf : Nat → Int32} {ln : Nat → Int32} {lz : Nat} {ip : Nat → Int32} {ty : Nat} {he : Nat} {er : Int32} {ea : Int32} {fa : Int32} {cm : Nat → Int32} {cn : Nat} (smo : z_Mr h 215 th al cg sv rs ac rj ro ad bf ln lz ip ty he er ea fa cm cn)  (n : Nat) (mn : Nat) (e0 : al 0 = nI n) (hn : n ≤ 8) (e3 : al 3 = nI mn) (hm : mn ≤ 12)  (hd : 1 ≤ d) : q_Spec g mX11_undo d 0 0 [.ref (215)] h (q_chg (.inl (some (.int (x_mo_undo al cg).1))) (fun h1 => z_Mr h1 215 ((x_mo_undo al cg).2.1) ((x_mo_undo al cg).2.2.1) ((x_mo_undo al cg).2.2.2) sv rs ac rj ro ad bf ln lz ip ty he er ea fa cm cn ∧ q_same h h1 215 8)) := by
  have hb_mo_cg := smo.bcg
  have hb_mo_lz := smo.blz
  have hb_mo_ty := smo.bty
  have hb_mo_he := smo.bhe
  have hb_mo_cn := smo.bcn
  have ho_mo_cg := smo.bcg
  have ho_mo_lz := smo.blz
  have ho_mo_ty := smo.bty
  have ho_mo_he := smo.bhe
  have ho_mo_cn := smo.bcn
  have p0 : q_same h h 215 8 := q_same.rfl'
  refine q_enter (by decide +kernel) rfl rfl (Nat.le_of_ble_eq_true rfl) (fun hz => ?_)
  change q_W _ _ _ _ _ _ _ _ _ [.ref (215)] [] _
  refine q_aload_n (by first | assumption | omega | decide | (rw [q_R0e]; omega)) dX11_undo_0 rfl ?_
  refine q_aload_n (by first | assumption | omega | decide | (rw [q_R0e]; omega)) dX11_undo_1 rfl ?_
  refine q_getf (k := 2) (v := .int (nI (cg))) kC_X11 kL_X11_47 rfl (by decide) dX11_undo_2 smo.c0 rfl ?_
  refine q_if_le 12 dX11_undo_5 (by decide) (fun b5 => ?_) (fun b5 => ?_)
  · have b5 := (nI_leI (a := cg) (b := 0) (by omega) (by omega)).mp b5
    refine q_iconst (v := 0) dX11_undo_12 rfl ?_
    refine q_invV (mc' := 0) (ms' := 0) (d' := d - 1) (as := [.int (0)]) dX11_undo_13 kM_X11_isFine kL_X11_181 kI_X11_isFine kS_X11_isFine rfl (kC_X11.1) smo.c0 rfl rfl (Nat.le_of_ble_eq_true rfl) (by omega) (by decide) (by omega) (by omega) (e_isFineR (d := d - 1) smo (xb := false) (by omega)) (q_kC (fun h1 hB => ?_)) q_xC
    obtain ⟨t1_0, pp1⟩ := hB
    have smo1 : z_Mr h1 215 1 al cg sv rs ac rj ro ad bf ln lz ip ty he er ea fa cm cn := t1_0
    have p1 := p0.trans (pp1.wide (by omega) (by omega))
    have hb_mo_cg := smo1.bcg
    have hb_mo_lz := smo1.blz
    have hb_mo_ty := smo1.bty
    have hb_mo_he := smo1.bhe
    have hb_mo_cn := smo1.bcn
    change q_W _ _ _ _ _ _ _ _ 16 [.ref (215)] [.int (0)] _
    refine q_if_ne 21 dX11_undo_16 (by decide) (fun b16 => ?_) (fun b16 => ?_)
    · exact absurd (by decide) b16
    · refine q_iconst (v := 0) dX11_undo_19 rfl ?_
      have hE : x_mo_undo al cg = (0, 1, al, cg) := by simp only [x_mo_undo, if_pos b5]
      rw [hE]
      exact q_ireturn dX11_undo_20 rfl rfl (by omega) (by omega) ⟨rfl, smo1, p1⟩
  · have b5 : ¬ (cg ≤ 0) := fun q => b5 ((nI_leI (a := cg) (b := 0) (by omega) (by omega)).mpr q)
    refine q_iconst (v := 1) dX11_undo_8 rfl ?_
    refine q_goto 13 dX11_undo_9 (by decide) ?_
    refine q_invV (mc' := 0) (ms' := 0) (d' := d - 1) (as := [.int (1)]) dX11_undo_13 kM_X11_isFine kL_X11_181 kI_X11_isFine kS_X11_isFine rfl (kC_X11.1) smo.c0 rfl rfl (Nat.le_of_ble_eq_true rfl) (by omega) (by decide) (by omega) (by omega) (e_isFineR (d := d - 1) smo (xb := true) (by omega)) (q_kC (fun h2 hB => ?_)) q_xC
    obtain ⟨t2_0, pp2⟩ := hB
    have smo2 : z_Mr h2 215 0 al cg sv rs ac rj ro ad bf ln lz ip ty he er ea fa cm cn := t2_0
    have p2 := p0.trans (pp2.wide (by omega) (by omega))
    have hb_mo_cg := smo2.bcg
    have hb_mo_lz := smo2.blz
    have hb_mo_ty := smo2.bty
    have hb_mo_he := smo2.bhe
    have hb_mo_cn := smo2.bcn
    change q_W _ _ _ _ _ _ _ _ 16 [.ref (215)] [.int (1)] _
    refine q_if_ne 21 dX11_undo_16 (by decide) (fun b16 => ?_) (fun b16 => ?_)
    · refine q_aload_n (by first | assumption | omega | decide | (rw [q_R0e]; omega)) dX11_undo_21 rfl ?_
      refine q_aload_n (by first | assumption | omega | decide | (rw [q_R0e]; omega)) dX11_undo_22 rfl ?_
      refine q_getf (k := 2) (v := .int (nI (cg))) kC_X11 kL_X11_47 rfl (by decide) dX11_undo_23 smo2.c0 rfl ?_
      refine q_iconst (v := 0) dX11_undo_26 rfl ?_
      refine q_invV (mc' := 0) (ms' := 0) (d' := d - 1) (as := [.int (nI (cg)), .int (0)]) dX11_undo_27 kM_X11_copies kL_X11_43 kI_X11_copies kS_X11_copies rfl (kC_X11.1) smo2.c0 rfl rfl (Nat.le_of_ble_eq_true rfl) (by omega) (by decide) (by omega) (by omega) (e_cp (d := d - 1) smo2 cg 0 (by omega) (by omega) (by omega) (by omega)) (q_kC (fun h3 hB => ?_)) q_xC
      obtain ⟨t3_0, pp3⟩ := hB
      have smo3 : z_Mr h3 215 0 (x_cp al cg 0) cg sv rs ac rj ro ad bf ln lz ip ty he er ea fa cm cn := t3_0
      have p3 := p2.trans (pp3.wide (by omega) (by omega))
      have hb_mo_cg := smo3.bcg
      have hb_mo_lz := smo3.blz
      have hb_mo_ty := smo3.bty
      have hb_mo_he := smo3.bhe
      have hb_mo_cn := smo3.bcn
      change q_W _ _ _ _ _ _ _ _ 30 [.ref (215)] [] _
      refine q_aload_n (by first | assumption | omega | decide | (rw [q_R0e]; omega)) dX11_undo_30 rfl ?_
      refine q_dup dX11_undo_31 rfl ?_
      refine q_getf (k := 2) (v := .int (nI (cg))) kC_X11 kL_X11_47 rfl (by decide) dX11_undo_32 smo3.c0 rfl ?_
      refine q_iconst (v := 1) dX11_undo_35 rfl ?_
      refine q_isubN (a := cg) (b := 1) (by omega) dX11_undo_36 ?_
      refine q_putf (k := 2) kC_X11 kL_X11_47 rfl (by decide) rfl dX11_undo_37 smo3.c0 (Nat.le_of_ble_eq_true rfl) ⟨rfl, rfl⟩ rfl ?_
      refine z_genW (B := fun H => z_Mr H 215 0 (x_cp al cg 0) (cg - 1) sv rs ac rj ro ad bf ln lz ip ty he er ea fa cm cn ∧ q_same h H 215 8) ⟨z_Mr.put0 smo3 (cg' := cg - 1) (sv' := sv) (lz' := lz) (ty' := ty) (he' := he) (cn' := cn) (hbcg := by first | omega | (split <;> omega)) (hblz := by first | omega | (split <;> omega)) (hbty := by first | omega | (split <;> omega)) (hbhe := by first | omega | (split <;> omega)) (hbcn := by first | omega | (split <;> omega)), p3.trans (q_same.set (by omega) (by omega))⟩ (fun h4 hB => ?_)
      obtain ⟨smo4, p4⟩ := hB
      have hb_mo_cg := smo4.bcg
      have hb_mo_lz := smo4.blz
      have hb_mo_ty := smo4.bty
      have hb_mo_he := smo4.bhe
      have hb_mo_cn := smo4.bcn
      refine q_aload_n (by first | assumption | omega | decide | (rw [q_R0e]; omega)) dX11_undo_40 rfl ?_
      refine q_getf (k := 2) (v := .int (nI (cg - 1))) kC_X11 kL_X11_47 rfl (by decide) dX11_undo_41 smo4.c0 rfl ?_
      have hE : x_mo_undo al cg = (nI (cg - 1), 0, x_cp al cg 0, cg - 1) := by simp only [x_mo_undo, if_neg b5]
      rw [hE]
      exact q_ireturn dX11_undo_44 rfl rfl (by omega) (by omega) ⟨rfl, smo4, p4⟩
    · exact absurd b16 (by decide)
def x_mo_save (al : Nat → Int32) : (Int32) × (Int32) × (Nat → Int32) × (Bool) := ((x_cp al 0 9) 0, 0, x_cp al 0 9, true)
set_option maxRecDepth 100000 in
set_option maxHeartbeats 8000000 in
theorem e_mo_save {g : q_G} {h : q_H} {d : Nat} {th : Int32} {al : Nat → Int32} {cg : Nat} {sv : Bool} {rs : Int32} {ac : Int32} {rj : Int32} {ro : Nat → Int32} {ad : Nat → Int32} {bf : Nat → Int32} {ln : Nat → Int32} {lz : Nat} {ip : Nat → Int32} {ty : Nat} {he : Nat} {er : Int32} {ea : Int32} {fa : Int32} {cm : Nat → Int32} {cn : Nat} (smo : z_Mr h 215 th al cg sv rs ac rj ro ad bf ln lz ip ty he er ea fa cm cn)     (hd : 1 ≤ d) : q_Spec g mX11_save d 0 0 [.ref (215)] h (q_chg (.inl (some (.int (x_mo_save al).1))) (fun h1 => z_Mr h1 215 ((x_mo_save al).2.1) ((x_mo_save al).2.2.1) cg ((x_mo_save al).2.2.2) rs ac rj ro ad bf ln lz ip ty he er ea fa cm cn ∧ q_same h h1 215 8)) := by
  have hb_mo_cg := smo.bcg
  have hb_mo_lz := smo.blz
  have hb_mo_ty := smo.bty
  have hb_mo_he := smo.bhe
  have hb_mo_cn := smo.bcn
  have ho_mo_cg := smo.bcg
  have ho_mo_lz := smo.blz
  have ho_mo_ty := smo.bty
  have ho_mo_he := smo.bhe
  have ho_mo_cn := smo.bcn
  have p0 : q_same h h 215 8 := q_same.rfl'
  refine q_enter (by decide +kernel) rfl rfl (Nat.le_of_ble_eq_true rfl) (fun hz => ?_)
  change q_W _ _ _ _ _ _ _ _ _ [.ref (215)] [] _
  refine q_aload_n (by first | assumption | omega | decide | (rw [q_R0e]; omega)) dX11_save_0 rfl ?_
  refine q_iconst (v := 0) dX11_save_1 rfl ?_
  refine q_putf (k := 0) kC_X11 kL_X11_40 rfl (by decide) rfl dX11_save_2 smo.c0 (Nat.le_of_ble_eq_true rfl) ⟨rfl, rfl⟩ rfl ?_
  refine z_genW (B := fun H => z_Mr H 215 0 al cg sv rs ac rj ro ad bf ln lz ip ty he er ea fa cm cn ∧ q_same h H 215 8) ⟨z_Mr.put0 smo (cg' := cg) (sv' := sv) (lz' := lz) (ty' := ty) (he' := he) (cn' := cn) (hbcg := by first | omega | (split <;> omega)) (hblz := by first | omega | (split <;> omega)) (hbty := by first | omega | (split <;> omega)) (hbhe := by first | omega | (split <;> omega)) (hbcn := by first | omega | (split <;> omega)), p0.trans (q_same.set (by omega) (by omega))⟩ (fun h1 hB => ?_)
  obtain ⟨smo1, p1⟩ := hB
  have hb_mo_cg := smo1.bcg
  have hb_mo_lz := smo1.blz
  have hb_mo_ty := smo1.bty
  have hb_mo_he := smo1.bhe
  have hb_mo_cn := smo1.bcn
  refine q_aload_n (by first | assumption | omega | decide | (rw [q_R0e]; omega)) dX11_save_5 rfl ?_
  refine q_iconst (v := 1) dX11_save_6 rfl ?_
  refine q_putf (k := 3) kC_X11 kL_X11_275 rfl (by decide) rfl dX11_save_7 smo1.c0 (Nat.le_of_ble_eq_true rfl) ⟨rfl, rfl⟩ rfl ?_
  refine z_genW (B := fun H => z_Mr H 215 0 al cg true rs ac rj ro ad bf ln lz ip ty he er ea fa cm cn ∧ q_same h H 215 8) ⟨z_Mr.put0 smo1 (cg' := cg) (sv' := true) (lz' := lz) (ty' := ty) (he' := he) (cn' := cn) (hbcg := by first | omega | (split <;> omega)) (hblz := by first | omega | (split <;> omega)) (hbty := by first | omega | (split <;> omega)) (hbhe := by first | omega | (split <;> omega)) (hbcn := by first | omega | (split <;> omega)), p1.trans (q_same.set (by omega) (by omega))⟩ (fun h2 hB => ?_)
  obtain ⟨smo2, p2⟩ := hB
  have hb_mo_cg := smo2.bcg
  have hb_mo_lz := smo2.blz
  have hb_mo_ty := smo2.bty
  have hb_mo_he := smo2.bhe
  have hb_mo_cn := smo2.bcn
  refine q_aload_n (by first | assumption | omega | decide | (rw [q_R0e]; omega)) dX11_save_10 rfl ?_
  refine q_iconst (v := 0) dX11_save_11 rfl ?_
  refine q_bipush (v := 9) dX11_save_12 rfl ?_
  refine q_invV (mc' := 0) (ms' := 0) (d' := d - 1) (as := [.int (0), .int (9)]) dX11_save_14 kM_X11_copies kL_X11_43 kI_X11_copies kS_X11_copies rfl (kC_X11.1) smo2.c0 rfl rfl (Nat.le_of_ble_eq_true rfl) (by omega) (by decide) (by omega) (by omega) (e_cp (d := d - 1) smo2 0 9 (by omega) (by omega) (by omega) (by omega)) (q_kC (fun h3 hB => ?_)) q_xC
  obtain ⟨t3_0, pp3⟩ := hB
  have smo3 : z_Mr h3 215 0 (x_cp al 0 9) cg true rs ac rj ro ad bf ln lz ip ty he er ea fa cm cn := t3_0
  have p3 := p2.trans (pp3.wide (by omega) (by omega))
  have hb_mo_cg := smo3.bcg
  have hb_mo_lz := smo3.blz
  have hb_mo_ty := smo3.bty
  have hb_mo_he := smo3.bhe
  have hb_mo_cn := smo3.bcn
  change q_W _ _ _ _ _ _ _ _ 17 [.ref (215)] [] _
  refine q_aload_n (by first | assumption | omega | decide | (rw [q_R0e]; omega)) dX11_save_17 rfl ?_
  refine q_getf (k := 1) (v := .ref (216)) kC_X11 kL_X11_9 rfl (by decide) dX11_save_18 smo3.c0 rfl ?_
  refine q_iconst (v := 0) dX11_save_21 rfl ?_
  refine q_ialdN (j := 0) (f := x_cp al 0 9) dX11_save_22 smo3.c1 (by omega) (by decide) ?_
  change q_W _ _ _ _ _ _ _ _ _ _ [.int ((x_cp al 0 9) 0)] _
  have hE : x_mo_save al = ((x_cp al 0 9) 0, 0, x_cp al 0 9, true) := by simp only [x_mo_save]
  rw [hE]
  exact q_ireturn dX11_save_23 rfl rfl (by omega) (by omega) ⟨rfl, smo3, p3⟩
def x_mo_restore (al : Nat → Int32) (cg : Nat) (sv : Bool) : (Int32) × (Int32) × (Nat → Int32) × (Nat) := (if sv then ((x_cp al 9 0) 0, (if sv then 0 else 1), x_cp al 9 0, 0) else (0, (if sv then 0 else 1), al, cg))
set_option maxRecDepth 100000 in
set_option maxHeartbeats 8000000 in
theorem e_mo_restore {g : q_G} {h : q_H} {d : Nat} {th : Int32} {al : Nat → Int32} {cg : Nat} {sv : Bool} {rs : Int32} {ac : Int32} {rj : Int32} {ro : Nat → Int32} {ad : Nat → Int32} {bf : Nat → Int32} {ln : Nat → Int32} {lz : Nat} {ip : Nat → Int32} {ty : Nat} {he : Nat} {er : Int32} {ea : Int32} {fa : Int32} {cm : Nat → Int32} {cn : Nat} (smo : z_Mr h 215 th al cg sv rs ac rj ro ad bf ln lz ip ty he er ea fa cm cn)  (n : Nat) (mn : Nat) (e0 : al 0 = nI n) (hn : n ≤ 8) (e3 : al 3 = nI mn) (hm : mn ≤ 12)  (hd : 1 ≤ d) : q_Spec g mX11_restore d 0 0 [.ref (215)] h (q_chg (.inl (some (.int (x_mo_restore al cg sv).1))) (fun h1 => z_Mr h1 215 ((x_mo_restore al cg sv).2.1) ((x_mo_restore al cg sv).2.2.1) ((x_mo_restore al cg sv).2.2.2) sv rs ac rj ro ad bf ln lz ip ty he er ea fa cm cn ∧ q_same h h1 215 8)) := by
  have hb_mo_cg := smo.bcg
  have hb_mo_lz := smo.blz
  have hb_mo_ty := smo.bty
  have hb_mo_he := smo.bhe
  have hb_mo_cn := smo.bcn
  have ho_mo_cg := smo.bcg
  have ho_mo_lz := smo.blz
  have ho_mo_ty := smo.bty
  have ho_mo_he := smo.bhe
  have ho_mo_cn := smo.bcn
  have p0 : q_same h h 215 8 := q_same.rfl'
  refine q_enter (by decide +kernel) rfl rfl (Nat.le_of_ble_eq_true rfl) (fun hz => ?_)
  change q_W _ _ _ _ _ _ _ _ _ [.ref (215)] [] _
  refine q_aload_n (by first | assumption | omega | decide | (rw [q_R0e]; omega)) dX11_restore_0 rfl ?_
  refine q_aload_n (by first | assumption | omega | decide | (rw [q_R0e]; omega)) dX11_restore_1 rfl ?_
  refine q_getf (k := 3) (v := .int (z_b (sv))) kC_X11 kL_X11_275 rfl (by decide) dX11_restore_2 smo.c0 rfl ?_
  refine q_invV (mc' := 0) (ms' := 0) (d' := d - 1) (as := [.int (z_b (sv))]) dX11_restore_5 kM_X11_isFine kL_X11_181 kI_X11_isFine kS_X11_isFine rfl (kC_X11.1) smo.c0 rfl rfl (Nat.le_of_ble_eq_true rfl) (by omega) (by decide) (by omega) (by omega) (e_isFineR (d := d - 1) smo (xb := sv) (by omega)) (q_kC (fun h1 hB => ?_)) q_xC
  obtain ⟨t1_0, pp1⟩ := hB
  have smo1 : z_Mr h1 215 (if sv then 0 else 1) al cg sv rs ac rj ro ad bf ln lz ip ty he er ea fa cm cn := t1_0
  have p1 := p0.trans (pp1.wide (by omega) (by omega))
  have hb_mo_cg := smo1.bcg
  have hb_mo_lz := smo1.blz
  have hb_mo_ty := smo1.bty
  have hb_mo_he := smo1.bhe
  have hb_mo_cn := smo1.bcn
  change q_W _ _ _ _ _ _ _ _ 8 [.ref (215)] [.int (z_b (sv))] _
  refine q_if_ne 13 dX11_restore_8 (by decide) (fun b8 => ?_) (fun b8 => ?_)
  · have b8 := z_b1 b8
    refine q_aload_n (by first | assumption | omega | decide | (rw [q_R0e]; omega)) dX11_restore_13 rfl ?_
    refine q_bipush (v := 9) dX11_restore_14 rfl ?_
    refine q_iconst (v := 0) dX11_restore_16 rfl ?_
    refine q_invV (mc' := 0) (ms' := 0) (d' := d - 1) (as := [.int (9), .int (0)]) dX11_restore_17 kM_X11_copies kL_X11_43 kI_X11_copies kS_X11_copies rfl (kC_X11.1) smo1.c0 rfl rfl (Nat.le_of_ble_eq_true rfl) (by omega) (by decide) (by omega) (by omega) (e_cp (d := d - 1) smo1 9 0 (by omega) (by omega) (by omega) (by omega)) (q_kC (fun h2 hB => ?_)) q_xC
    obtain ⟨t2_0, pp2⟩ := hB
    have smo2 : z_Mr h2 215 (if sv then 0 else 1) (x_cp al 9 0) cg sv rs ac rj ro ad bf ln lz ip ty he er ea fa cm cn := t2_0
    have p2 := p1.trans (pp2.wide (by omega) (by omega))
    have hb_mo_cg := smo2.bcg
    have hb_mo_lz := smo2.blz
    have hb_mo_ty := smo2.bty
    have hb_mo_he := smo2.bhe
    have hb_mo_cn := smo2.bcn
    change q_W _ _ _ _ _ _ _ _ 20 [.ref (215)] [] _
    refine q_aload_n (by first | assumption | omega | decide | (rw [q_R0e]; omega)) dX11_restore_20 rfl ?_
    refine q_iconst (v := 0) dX11_restore_21 rfl ?_
    refine q_putf (k := 2) kC_X11 kL_X11_47 rfl (by decide) rfl dX11_restore_22 smo2.c0 (Nat.le_of_ble_eq_true rfl) ⟨rfl, rfl⟩ rfl ?_
    refine z_genW (B := fun H => z_Mr H 215 (if sv then 0 else 1) (x_cp al 9 0) 0 sv rs ac rj ro ad bf ln lz ip ty he er ea fa cm cn ∧ q_same h H 215 8) ⟨z_Mr.put0 smo2 (cg' := 0) (sv' := sv) (lz' := lz) (ty' := ty) (he' := he) (cn' := cn) (hbcg := by first | omega | (split <;> omega)) (hblz := by first | omega | (split <;> omega)) (hbty := by first | omega | (split <;> omega)) (hbhe := by first | omega | (split <;> omega)) (hbcn := by first | omega | (split <;> omega)), p2.trans (q_same.set (by omega) (by omega))⟩ (fun h3 hB => ?_)
    obtain ⟨smo3, p3⟩ := hB
    have hb_mo_lz := smo3.blz
    have hb_mo_ty := smo3.bty
    have hb_mo_he := smo3.bhe
    have hb_mo_cn := smo3.bcn
    refine q_aload_n (by first | assumption | omega | decide | (rw [q_R0e]; omega)) dX11_restore_25 rfl ?_
    refine q_getf (k := 1) (v := .ref (216)) kC_X11 kL_X11_9 rfl (by decide) dX11_restore_26 smo3.c0 rfl ?_
    refine q_iconst (v := 0) dX11_restore_29 rfl ?_
    refine q_ialdN (j := 0) (f := x_cp al 9 0) dX11_restore_30 smo3.c1 (by omega) (by decide) ?_
    change q_W _ _ _ _ _ _ _ _ _ _ [.int ((x_cp al 9 0) 0)] _
    have hE : x_mo_restore al cg sv = ((x_cp al 9 0) 0, (if sv then 0 else 1), x_cp al 9 0, 0) := by simp only [x_mo_restore, if_pos b8]
    rw [hE]
    exact q_ireturn dX11_restore_31 rfl rfl (by omega) (by omega) ⟨rfl, smo3, p3⟩
  · have b8 := z_b0n b8
    refine q_iconst (v := 0) dX11_restore_11 rfl ?_
    have hE : x_mo_restore al cg sv = (0, (if sv then 0 else 1), al, cg) := by simp only [x_mo_restore, if_neg b8]
    rw [hE]
    exact q_ireturn dX11_restore_12 rfl rfl (by omega) (by omega) ⟨rfl, smo1, p1⟩