theorem z_dn_lt {r : Nat} (hr : r ≤ 1000) : z_dn r < 0 ↔ r = 0 := by
  cases r with
  | zero => exact ⟨fun _ => rfl, fun _ => by decide⟩
  | succ k => exact ⟨fun q => absurd q (nI_pos (by omega)), fun q => by omega⟩
theorem z_notge {x : Int32} (h : ¬ 0 ≤ x) : x < 0 := by
  rw [Int32.lt_iff_toInt_lt]
  rw [Int32.le_iff_toInt_le] at h
  omega
theorem z_gelt {x : Int32} (h : 0 ≤ x) : ¬ x < 0 := by
  rw [Int32.lt_iff_toInt_lt]
  rw [Int32.le_iff_toInt_le] at h
  omega
theorem z_dn_pos {r : Nat} (h : ¬ r = 0) : z_dn r = nI (r - 1) := by
  obtain ⟨k, rfl⟩ : ∃ k, r = k + 1 := ⟨r - 1, by omega⟩
  rfl
def x_mo_in (xv : Int32) (xa : Int32) (xb : Int32) : Bool := (if (xv) < (xa) then false else (if (xb) < (xv) then false else true))
set_option maxRecDepth 100000 in
set_option maxHeartbeats 8000000 in
theorem e_mo_in {g : q_G} {h : q_H} {d : Nat}   (xv : Int32) (xa : Int32) (xb : Int32)   (hd : 0 ≤ d) : q_Spec g mX11_in d 0 0 [.int (xv), .int (xa), .int (xb)] h (q_ret ((some (.int (z_b (x_mo_in xv xa xb))))) h) := by
  refine q_enter (by decide +kernel) rfl rfl (Nat.le_of_ble_eq_true rfl) (fun hz => ?_)
  change q_W _ _ _ _ _ _ _ _ _ [.int (xv), .int (xa), .int (xb)] [] _
  refine q_iload_n dX11_in_0 rfl ?_
  refine q_iload_n dX11_in_1 rfl ?_
  refine q_icmp_lt 14 dX11_in_2 (by decide) (fun b2 => ?_) (fun b2 => ?_)
  · refine q_iconst (v := 0) dX11_in_14 rfl ?_
    have hE : x_mo_in xv xa xb = false := by simp only [x_mo_in, if_pos b2]
    rw [hE]
    exact q_ireturn dX11_in_15 rfl rfl (by omega) (by omega) ⟨rfl, rfl⟩
  · refine q_iload_n dX11_in_5 rfl ?_
    refine q_iload_n dX11_in_6 rfl ?_
    refine q_icmp_gt 14 dX11_in_7 (by decide) (fun b7 => ?_) (fun b7 => ?_)
    · refine q_iconst (v := 0) dX11_in_14 rfl ?_
      have hE : x_mo_in xv xa xb = false := by simp only [x_mo_in, if_neg b2, if_pos b7]
      rw [hE]
      exact q_ireturn dX11_in_15 rfl rfl (by omega) (by omega) ⟨rfl, rfl⟩
    · refine q_iconst (v := 1) dX11_in_10 rfl ?_
      refine q_goto 15 dX11_in_11 (by decide) ?_
      have hE : x_mo_in xv xa xb = true := by simp only [x_mo_in, if_neg b2, if_neg b7]
      rw [hE]
      exact q_ireturn dX11_in_15 rfl rfl (by omega) (by omega) ⟨rfl, rfl⟩
def x_mo_thrown (th : Int32) : Int32 := th
set_option maxRecDepth 100000 in
set_option maxHeartbeats 8000000 in
theorem e_mo_thrown {g : q_G} {h : q_H} {d : Nat} {th : Int32} {al : Nat → Int32} {cg : Nat} {sv : Bool} {rs : Int32} {ac : Int32} {rj : Int32} {ro : Nat → Int32} {ad : Nat → Int32} {bf : Nat → Int32} {ln : Nat → Int32} {lz : Nat} {ip : Nat → Int32} {ty : Nat} {he : Nat} {er : Int32} {ea : Int32} {fa : Int32} {cm : Nat → Int32} {cn : Nat} {n : Nat} {mn : Nat} (smo : z_Mo h 215 th al cg sv rs ac rj ro ad bf ln lz ip ty he er ea fa cm cn n mn)     (hd : 0 ≤ d) : q_Spec g mX11_thrown d 0 0 [.ref (215)] h (q_ret ((some (.int (x_mo_thrown th)))) h) := by
  have hb_mo_cg := smo.bcg
  have hb_mo_lz := smo.blz
  have hb_mo_ty := smo.bty
  have hb_mo_he := smo.bhe
  have hb_mo_cn := smo.bcn
  have hb_mo_n := smo.bn
  have hb_mo_mn := smo.bmn
  have ho_mo_cg := smo.bcg
  have ho_mo_lz := smo.blz
  have ho_mo_ty := smo.bty
  have ho_mo_he := smo.bhe
  have ho_mo_cn := smo.bcn
  have ho_mo_n := smo.bn
  have ho_mo_mn := smo.bmn
  refine q_enter (by decide +kernel) rfl rfl (Nat.le_of_ble_eq_true rfl) (fun hz => ?_)
  change q_W _ _ _ _ _ _ _ _ _ [.ref (215)] [] _
  refine q_aload_n (by first | assumption | omega | decide | (rw [q_R0e]; omega)) dX11_thrown_0 rfl ?_
  refine q_getf (k := 0) (v := .int (th)) kC_X11 kL_X11_40 rfl (by decide) dX11_thrown_1 smo.c0 rfl ?_
  have hE : x_mo_thrown th = th := by simp only [x_mo_thrown]
  rw [hE]
  exact q_ireturn dX11_thrown_4 rfl rfl (by omega) (by omega) ⟨rfl, rfl⟩
def x_mo_isFine (xb : Bool) : (Bool) × (Int32) := (if xb then (xb, 0) else (xb, 1))
set_option maxRecDepth 100000 in
set_option maxHeartbeats 8000000 in
theorem e_mo_isFine {g : q_G} {h : q_H} {d : Nat} {th : Int32} {al : Nat → Int32} {cg : Nat} {sv : Bool} {rs : Int32} {ac : Int32} {rj : Int32} {ro : Nat → Int32} {ad : Nat → Int32} {bf : Nat → Int32} {ln : Nat → Int32} {lz : Nat} {ip : Nat → Int32} {ty : Nat} {he : Nat} {er : Int32} {ea : Int32} {fa : Int32} {cm : Nat → Int32} {cn : Nat} {n : Nat} {mn : Nat} (smo : z_Mo h 215 th al cg sv rs ac rj ro ad bf ln lz ip ty he er ea fa cm cn n mn)  (xb : Bool)   (hd : 0 ≤ d) : q_Spec g mX11_isFine d 0 0 [.ref (215), .int (z_b xb)] h (q_chg (.inl (some (.int (z_b (x_mo_isFine xb).1)))) (fun h1 => z_Mo h1 215 ((x_mo_isFine xb).2) al cg sv rs ac rj ro ad bf ln lz ip ty he er ea fa cm cn n mn ∧ q_same h h1 215 8)) := by
  have hb_mo_cg := smo.bcg
  have hb_mo_lz := smo.blz
  have hb_mo_ty := smo.bty
  have hb_mo_he := smo.bhe
  have hb_mo_cn := smo.bcn
  have hb_mo_n := smo.bn
  have hb_mo_mn := smo.bmn
  have ho_mo_cg := smo.bcg
  have ho_mo_lz := smo.blz
  have ho_mo_ty := smo.bty
  have ho_mo_he := smo.bhe
  have ho_mo_cn := smo.bcn
  have ho_mo_n := smo.bn
  have ho_mo_mn := smo.bmn
  have p0 : q_same h h 215 8 := q_same.rfl'
  refine q_enter (by decide +kernel) rfl rfl (Nat.le_of_ble_eq_true rfl) (fun hz => ?_)
  change q_W _ _ _ _ _ _ _ _ _ [.ref (215), .int (z_b xb)] [] _
  refine q_aload_n (by first | assumption | omega | decide | (rw [q_R0e]; omega)) dX11_isFine_0 rfl ?_
  refine q_iload_n dX11_isFine_1 rfl ?_
  refine q_if_eq 9 dX11_isFine_2 (by decide) (fun b2 => ?_) (fun b2 => ?_)
  · have b2 := z_b0n b2
    refine q_iconst (v := 1) dX11_isFine_9 rfl ?_
    refine q_putf (k := 0) kC_X11 kL_X11_40 rfl (by decide) rfl dX11_isFine_10 smo.c0 (Nat.le_of_ble_eq_true rfl) ⟨rfl, rfl⟩ rfl ?_
    refine z_genW (B := fun H => z_Mo H 215 1 al cg sv rs ac rj ro ad bf ln lz ip ty he er ea fa cm cn n mn ∧ q_same h H 215 8) ⟨z_Mo.put0 smo (cg' := cg) (sv' := sv) (lz' := lz) (ty' := ty) (he' := he) (cn' := cn) (hbcg := by first | omega | (split <;> omega)) (hblz := by first | omega | (split <;> omega)) (hbty := by first | omega | (split <;> omega)) (hbhe := by first | omega | (split <;> omega)) (hbcn := by first | omega | (split <;> omega)), p0.trans (q_same.set (by omega) (by omega))⟩ (fun h1 hB => ?_)
    obtain ⟨smo1, p1⟩ := hB
    have hb_mo_cg := smo1.bcg
    have hb_mo_lz := smo1.blz
    have hb_mo_ty := smo1.bty
    have hb_mo_he := smo1.bhe
    have hb_mo_cn := smo1.bcn
    have hb_mo_n := smo1.bn
    have hb_mo_mn := smo1.bmn
    refine q_iload_n dX11_isFine_13 rfl ?_
    have hE : x_mo_isFine xb = (xb, 1) := by simp only [x_mo_isFine, if_neg b2]
    rw [hE]
    exact q_ireturn dX11_isFine_14 rfl (z_b_nar _) (by omega) (by omega) ⟨rfl, smo1, p1⟩
  · have b2 := z_b1 b2
    refine q_iconst (v := 0) dX11_isFine_5 rfl ?_
    refine q_goto 10 dX11_isFine_6 (by decide) ?_
    refine q_putf (k := 0) kC_X11 kL_X11_40 rfl (by decide) rfl dX11_isFine_10 smo.c0 (Nat.le_of_ble_eq_true rfl) ⟨rfl, rfl⟩ rfl ?_
    refine z_genW (B := fun H => z_Mo H 215 0 al cg sv rs ac rj ro ad bf ln lz ip ty he er ea fa cm cn n mn ∧ q_same h H 215 8) ⟨z_Mo.put0 smo (cg' := cg) (sv' := sv) (lz' := lz) (ty' := ty) (he' := he) (cn' := cn) (hbcg := by first | omega | (split <;> omega)) (hblz := by first | omega | (split <;> omega)) (hbty := by first | omega | (split <;> omega)) (hbhe := by first | omega | (split <;> omega)) (hbcn := by first | omega | (split <;> omega)), p0.trans (q_same.set (by omega) (by omega))⟩ (fun h2 hB => ?_)
    obtain ⟨smo2, p2⟩ := hB
    have hb_mo_cg := smo2.bcg
    have hb_mo_lz := smo2.blz
    have hb_mo_ty := smo2.bty
    have hb_mo_he := smo2.bhe
    have hb_mo_cn := smo2.bcn
    have hb_mo_n := smo2.bn
    have hb_mo_mn := smo2.bmn
    refine q_iload_n dX11_isFine_13 rfl ?_
    have hE : x_mo_isFine xb = (xb, 0) := by simp only [x_mo_isFine, if_pos b2]
    rw [hE]
    exact q_ireturn dX11_isFine_14 rfl (z_b_nar _) (by omega) (by omega) ⟨rfl, smo2, p2⟩
theorem e_isFine {g : q_G} {h : q_H} {d : Nat} {th : Int32} {al : Nat → Int32} {cg : Nat} {sv : Bool} {rs : Int32} {ac : Int32} {rj : Int32} {ro : Nat → Int32} {ad : Nat → Int32} {bf : Nat → Int32} {ln : Nat → Int32} {lz : Nat} {ip : Nat → Int32} {ty : Nat} {he : Nat} {er : Int32} {ea : Int32} {fa : Int32} {cm : Nat → Int32} {cn : Nat} {n : Nat} {mn : Nat} (smo : z_Mo h 215 th al cg sv rs ac rj ro ad bf ln lz ip ty he er ea fa cm cn n mn) {xb : Bool} (hd : 0 ≤ d) : q_Spec g mX11_isFine d 0 0 [.ref 215, .int (z_b xb)] h (q_chg (.inl (some (.int (z_b xb)))) (fun h1 => z_Mo h1 215 (if xb then 0 else 1) al cg sv rs ac rj ro ad bf ln lz ip ty he er ea fa cm cn n mn ∧ q_same h h1 215 8)) := by
  have e := e_mo_isFine (g := g) (d := d) smo xb (by omega)
  cases xb <;> exact e
def x_mo_a (al : Nat → Int32) (j : Nat) (w : Nat) : Int32 := al (7 + (3 * j) + w)
set_option maxRecDepth 100000 in
set_option maxHeartbeats 8000000 in
theorem e_mo_a {g : q_G} {h : q_H} {d : Nat} {th : Int32} {al : Nat → Int32} {cg : Nat} {sv : Bool} {rs : Int32} {ac : Int32} {rj : Int32} {ro : Nat → Int32} {ad : Nat → Int32} {bf : Nat → Int32} {ln : Nat → Int32} {lz : Nat} {ip : Nat → Int32} {ty : Nat} {he : Nat} {er : Int32} {ea : Int32} {fa : Int32} {cm : Nat → Int32} {cn : Nat} {n : Nat} {mn : Nat} (smo : z_Mo h 215 th al cg sv rs ac rj ro ad bf ln lz ip ty he er ea fa cm cn n mn)  (j : Nat) (w : Nat) (hj : j < 8) (hw : w < 3)  (hd : 0 ≤ d) : q_Spec g mX11_a d 0 0 [.ref (215), .int (nI (j)), .int (nI (w))] h (q_ret ((some (.int (x_mo_a al j w)))) h) := by
  have hb_mo_cg := smo.bcg
  have hb_mo_lz := smo.blz
  have hb_mo_ty := smo.bty
  have hb_mo_he := smo.bhe
  have hb_mo_cn := smo.bcn
  have hb_mo_n := smo.bn
  have hb_mo_mn := smo.bmn
  have ho_mo_cg := smo.bcg
  have ho_mo_lz := smo.blz
  have ho_mo_ty := smo.bty
  have ho_mo_he := smo.bhe
  have ho_mo_cn := smo.bcn
  have ho_mo_n := smo.bn
  have ho_mo_mn := smo.bmn
  refine q_enter (by decide +kernel) rfl rfl (Nat.le_of_ble_eq_true rfl) (fun hz => ?_)
  change q_W _ _ _ _ _ _ _ _ _ [.ref (215), .int (nI (j)), .int (nI (w))] [] _
  refine q_aload_n (by first | assumption | omega | decide | (rw [q_R0e]; omega)) dX11_a_0 rfl ?_
  refine q_getf (k := 1) (v := .ref (216)) kC_X11 kL_X11_9 rfl (by decide) dX11_a_1 smo.c0 rfl ?_
  refine q_bipush (v := 7) dX11_a_4 rfl ?_
  refine q_iconst (v := 3) dX11_a_6 rfl ?_
  refine q_iload_n dX11_a_7 rfl ?_
  refine q_imulN (a := 3) (b := j) dX11_a_8 ?_
  change q_W _ _ _ _ _ _ _ _ _ _ [.int (nI (3 * j)), .int (7), .ref (216)] _
  refine q_iaddN (a := 7) (b := 3 * j) dX11_a_9 ?_
  change q_W _ _ _ _ _ _ _ _ _ _ [.int (nI (7 + (3 * j))), .ref (216)] _
  refine q_iload_n dX11_a_10 rfl ?_
  refine q_iaddN (a := 7 + (3 * j)) (b := w) dX11_a_11 ?_
  change q_W _ _ _ _ _ _ _ _ _ _ [.int (nI (7 + (3 * j) + w)), .ref (216)] _
  refine q_ialdN (j := 7 + (3 * j) + w) (f := al) dX11_a_12 smo.c1 (by omega) (by decide) ?_
  change q_W _ _ _ _ _ _ _ _ _ _ [.int (al (7 + (3 * j) + w))] _
  have hE : x_mo_a al j w = al (7 + (3 * j) + w) := by simp only [x_mo_a]
  rw [hE]
  exact q_ireturn dX11_a_13 rfl rfl (by omega) (by omega) ⟨rfl, rfl⟩
theorem e_mo_aR {g : q_G} {h : q_H} {d : Nat} {th : Int32} {al : Nat → Int32} {cg : Nat} {sv : Bool} {rs : Int32} {ac : Int32} {rj : Int32} {ro : Nat → Int32} {ad : Nat → Int32} {bf : Nat → Int32} {ln : Nat → Int32} {lz : Nat} {ip : Nat → Int32} {ty : Nat} {he : Nat} {er : Int32} {ea : Int32} {fa : Int32} {cm : Nat → Int32} {cn : Nat} {n : Nat} {mn : Nat} (smo : z_Mo h 215 th al cg sv rs ac rj ro ad bf ln lz ip ty he er ea fa cm cn n mn) (w : Nat) (hw : w < 3) {x : Int32} (h1 : ¬ x < 0) (h2 : x < nI n) (hd : 0 ≤ d) : q_Spec g mX11_a d 0 0 [.ref 215, .int x, .int (nI w)] h (q_ret (some (.int (al (7 + 3 * x.toNatClampNeg + w)))) h) := by
  have hb := smo.bn
  obtain ⟨j, hj, rfl⟩ := nI_of h1
  rw [nI_clamp hj]
  have := (nI_ltI hj (by omega)).mp h2
  exact e_mo_a smo j w (by omega) hw hd
def x_mo_place_2 (al : Nat → Int32) (xid : Int32) : Nat → Nat → (Unit) ⊕ (Int32)
  | 0, _ => .inl ()
  | r + 1, k => (if (al (7 + 3 * k + 0)) = (xid) then .inr (nI (k)) else x_mo_place_2 al xid r (k + 1) )
set_option maxRecDepth 100000 in
set_option maxHeartbeats 8000000 in
theorem l_mo_place_2 {g : q_G} {h : q_H} {d mc ms kc ks : Nat} {Q : q_O → q_H → Prop} {th : Int32} {al : Nat → Int32} {cg : Nat} {sv : Bool} {rs : Int32} {ac : Int32} {rj : Int32} {ro : Nat → Int32} {ad : Nat → Int32} {bf : Nat → Int32} {ln : Nat → Int32} {lz : Nat} {ip : Nat → Int32} {ty : Nat} {he : Nat} {er : Int32} {ea : Int32} {fa : Int32} {cm : Nat → Int32} {cn : Nat} {n : Nat} {mn : Nat} {xid : Int32} (smo : z_Mo h 215 th al cg sv rs ac rj ro ad bf ln lz ip ty he er ea fa cm cn n mn)  (ho_mo_cg : cg ≤ 8) (ho_mo_lz : lz ≤ 160) (ho_mo_ty : ty ≤ 60) (ho_mo_he : he ≤ 60) (ho_mo_cn : cn ≤ 61) (ho_mo_n : n ≤ 8) (ho_mo_mn : mn ≤ 12)  (hd : 1 ≤ d) (hkc : kc + 0 ≤ mc) (hks : ks + 0 ≤ ms) : ∀ (r k : Nat)  (hk_2 : k + r = n) (K : ∀ (_ : Unit), x_mo_place_2 al xid r k  = .inl () → q_W g mX11_place d mc ms Q kc ks 30 [q_u, q_u, q_u] [] h) (K2 : ∀ z, x_mo_place_2 al xid r k  = .inr z → ∀ o h1, q_ret ((some (.int z))) h o h1 → Q o h1), q_W g mX11_place d mc ms Q kc ks 2 [.ref (215), .int (xid), .int (nI (k))] [] h := by
  intro r
  induction r with
  | zero =>
    intro k   hk_2 K K2
    have hb_mo_cg := smo.bcg
    have hb_mo_lz := smo.blz
    have hb_mo_ty := smo.bty
    have hb_mo_he := smo.bhe
    have hb_mo_cn := smo.bcn
    have hb_mo_n := smo.bn
    have hb_mo_mn := smo.bmn
    refine q_iload_n dX11_place_2 rfl ?_
    refine q_aload_n (by first | assumption | omega | decide | (rw [q_R0e]; omega)) dX11_place_3 rfl ?_
    refine q_getf (k := 1) (v := .ref (216)) kC_X11 kL_X11_9 rfl (by decide) dX11_place_4 smo.c0 rfl ?_
    refine q_iconst (v := 0) dX11_place_7 rfl ?_
    refine q_ialdN (j := 0) (f := al) dX11_place_8 smo.c1 (by omega) (by decide) ?_
    rw [smo.en]
    change q_W _ _ _ _ _ _ _ _ _ _ [.int (nI (n)), .int (nI (k))] _
    refine q_icmp_ge 30 dX11_place_9 (by decide) (fun b9 => ?_) (fun b9 => ?_)
    · have b9 := (nI_leI (a := n) (b := k) (by omega) (by omega)).mp b9
      refine q_forget 0 ?_
      refine q_forget 1 ?_
      refine q_forget 2 ?_
      change q_W _ _ _ _ _ _ _ _ _ [q_u, q_u, q_u] [] _
      exact K () (by simp only [x_mo_place_2])
    · have b9 : ¬ (n ≤ k) := fun q => b9 ((nI_leI (a := n) (b := k) (by omega) (by omega)).mpr q)
      exact absurd b9 (by omega)
  | succ r ih =>
    intro k   hk_2 K K2
    have hb_mo_cg := smo.bcg
    have hb_mo_lz := smo.blz
    have hb_mo_ty := smo.bty
    have hb_mo_he := smo.bhe
    have hb_mo_cn := smo.bcn
    have hb_mo_n := smo.bn
    have hb_mo_mn := smo.bmn
    refine q_iload_n dX11_place_2 rfl ?_
    refine q_aload_n (by first | assumption | omega | decide | (rw [q_R0e]; omega)) dX11_place_3 rfl ?_
    refine q_getf (k := 1) (v := .ref (216)) kC_X11 kL_X11_9 rfl (by decide) dX11_place_4 smo.c0 rfl ?_
    refine q_iconst (v := 0) dX11_place_7 rfl ?_
    refine q_ialdN (j := 0) (f := al) dX11_place_8 smo.c1 (by omega) (by decide) ?_
    rw [smo.en]
    change q_W _ _ _ _ _ _ _ _ _ _ [.int (nI (n)), .int (nI (k))] _
    refine q_icmp_ge 30 dX11_place_9 (by decide) (fun b9 => ?_) (fun b9 => ?_)
    · have b9 := (nI_leI (a := n) (b := k) (by omega) (by omega)).mp b9
      exact absurd b9 (by omega)
    · have b9 : ¬ (n ≤ k) := fun q => b9 ((nI_leI (a := n) (b := k) (by omega) (by omega)).mpr q)
      refine q_aload_n (by first | assumption | omega | decide | (rw [q_R0e]; omega)) dX11_place_12 rfl ?_
      refine q_iload_n dX11_place_13 rfl ?_
      refine q_iconst (v := 0) dX11_place_14 rfl ?_
      refine q_invV (mc' := 0) (ms' := 0) (d' := d - 1) (as := [.int (nI (k)), .int (0)]) dX11_place_15 kM_X11_a kL_X11_53 kI_X11_a kS_X11_a rfl (kC_X11.1) smo.c0 rfl rfl (Nat.le_of_ble_eq_true rfl) (by omega) (by decide) (by omega) (by omega) (e_mo_a (d := d - 1) smo k 0 (by omega) (by omega) (by omega)) (q_kR ?_) q_xR
      change q_W _ _ _ _ _ _ _ _ 18 [.ref (215), .int (xid), .int (nI (k))] [.int (al (7 + 3 * k + 0))] _
      refine q_iload_n dX11_place_18 rfl ?_
      refine q_icmp_ne 24 dX11_place_19 (by decide) (fun b19 => ?_) (fun b19 => ?_)
      · refine q_iinc (x := nI (k)) (v := nI (k + 1)) dX11_place_24 rfl (nI_add _ 1) rfl ?_
        change q_W _ _ _ _ _ _ _ _ _ [.ref (215), .int (xid), .int (nI (k + 1))] [] _
        refine q_goto 2 dX11_place_27 (by decide) ?_
        change q_W _ _ _ _ _ _ _ _ _ [.ref (215), .int (xid), .int (nI (k + 1))] [] _
        exact ih (k + 1)  (by omega) (fun _ e9 => K () (by simp only [x_mo_place_2, if_neg b19]; exact e9)) (fun z9 e9 => K2 z9 (by simp only [x_mo_place_2, if_neg b19]; exact e9))
      · refine q_iload_n dX11_place_22 rfl ?_
        exact q_ireturn dX11_place_23 rfl rfl (by omega) (by omega) (K2 (nI (k)) (by simp only [x_mo_place_2, if_pos b19]) _ _ ⟨rfl, rfl⟩)
def x_mo_place (al : Nat → Int32) (n : Nat) (xid : Int32) : Int32 := (match x_mo_place_2 al xid n 0 with | .inl () => -1 | .inr zz => zz)
set_option maxRecDepth 100000 in
set_option maxHeartbeats 8000000 in
theorem e_mo_place {g : q_G} {h : q_H} {d : Nat} {th : Int32} {al : Nat → Int32} {cg : Nat} {sv : Bool} {rs : Int32} {ac : Int32} {rj : Int32} {ro : Nat → Int32} {ad : Nat → Int32} {bf : Nat → Int32} {ln : Nat → Int32} {lz : Nat} {ip : Nat → Int32} {ty : Nat} {he : Nat} {er : Int32} {ea : Int32} {fa : Int32} {cm : Nat → Int32} {cn : Nat} {n : Nat} {mn : Nat} (smo : z_Mo h 215 th al cg sv rs ac rj ro ad bf ln lz ip ty he er ea fa cm cn n mn)  (xid : Int32)   (hd : 1 ≤ d) : q_Spec g mX11_place d 0 0 [.ref (215), .int (xid)] h (q_ret ((some (.int (x_mo_place al n xid)))) h) := by
  have hb_mo_cg := smo.bcg
  have hb_mo_lz := smo.blz
  have hb_mo_ty := smo.bty
  have hb_mo_he := smo.bhe
  have hb_mo_cn := smo.bcn
  have hb_mo_n := smo.bn
  have hb_mo_mn := smo.bmn
  have ho_mo_cg := smo.bcg
  have ho_mo_lz := smo.blz
  have ho_mo_ty := smo.bty
  have ho_mo_he := smo.bhe
  have ho_mo_cn := smo.bcn
  have ho_mo_n := smo.bn
  have ho_mo_mn := smo.bmn
  refine q_enter (by decide +kernel) rfl rfl (Nat.le_of_ble_eq_true rfl) (fun hz => ?_)
  change q_W _ _ _ _ _ _ _ _ _ [.ref (215), .int (xid), q_u] [] _
  refine q_iconst (v := 0) dX11_place_0 rfl ?_
  refine q_istore_n dX11_place_1 (by decide) rfl ?_
  change q_W _ _ _ _ _ _ _ _ _ [.ref (215), .int (xid), .int (0)] [] _
  change q_W _ _ _ _ _ _ _ _ _ [.ref (215), .int (xid), .int (0)] [] _
  refine l_mo_place_2 smo ho_mo_cg ho_mo_lz ho_mo_ty ho_mo_he ho_mo_cn ho_mo_n ho_mo_mn (by omega) (by omega) (by omega) n 0 (by omega) (fun _ x1 => ?_) (fun zz x1 => ?_)
  · change q_W _ _ _ _ _ _ _ _ 30 [q_u, q_u, q_u] [] _
    refine q_iconst (v := -1) dX11_place_30 rfl ?_
    have hE : x_mo_place al n xid = -1 := by simp only [x_mo_place, x1]
    rw [hE]
    exact q_ireturn dX11_place_31 rfl rfl (by omega) (by omega) ⟨rfl, rfl⟩
  · have hE : x_mo_place al n xid = zz := by simp only [x_mo_place, x1]
    rw [hE]
    exact fun _ _ q9 => q9
/-- one more than the place of an id; 0: none -/
def x_pl_2 (al : Nat → Int32) (xid : Int32) : Nat → Nat → Nat
  | 0, _ => 0
  | r + 1, k => if al (7 + 3 * k + 0) = xid then k + 1 else x_pl_2 al xid r (k + 1)
def x_pl (n : Nat) (al : Nat → Int32) (xid : Int32) : Nat := x_pl_2 al xid n 0
theorem x_pl_2_le {al : Nat → Int32} {xid : Int32} : ∀ r k, x_pl_2 al xid r k ≤ k + r := by
  intro r
  induction r with
  | zero => intro k; simp only [x_pl_2]; omega
  | succ r ih =>
    intro k
    simp only [x_pl_2]
    have := ih (k + 1)
    split <;> omega
theorem x_pl_le {n : Nat} {al : Nat → Int32} {xid : Int32} : x_pl n al xid ≤ n := by
  have := x_pl_2_le (al := al) (xid := xid) n 0
  unfold x_pl
  omega
theorem x_place_2 {al : Nat → Int32} {xid : Int32} : ∀ r k, (match x_mo_place_2 al xid r k with | .inl () => (-1 : Int32) | .inr zz => zz) = z_dn (x_pl_2 al xid r k) := by
  intro r
  induction r with
  | zero => intro k; rfl
  | succ r ih =>
    intro k
    simp only [x_mo_place_2, x_pl_2]
    by_cases c : al (7 + 3 * k + 0) = xid
    · simp only [if_pos c]
      rfl
    · simp only [if_neg c]
      exact ih (k + 1)
theorem e_place {g : q_G} {h : q_H} {d : Nat} {th : Int32} {al : Nat → Int32} {cg : Nat} {sv : Bool} {rs : Int32} {ac : Int32} {rj : Int32} {ro : Nat → Int32} {ad : Nat → Int32} {bf : Nat → Int32} {ln : Nat → Int32} {lz : Nat} {ip : Nat → Int32} {ty : Nat} {he : Nat} {er : Int32} {ea : Int32} {fa : Int32} {cm : Nat → Int32} {cn : Nat} {n : Nat} {mn : Nat} (smo : z_Mo h 215 th al cg sv rs ac rj ro ad bf ln lz ip ty he er ea fa cm cn n mn) (xid : Int32) (hd : 1 ≤ d) : q_Spec g mX11_place d 0 0 [.ref 215, .int xid] h (q_ret (some (.int (z_dn (x_pl n al xid)))) h) := by
  have e := e_mo_place (g := g) (d := d) smo xid (by omega)
  rw [show x_mo_place al n xid = z_dn (x_pl n al xid) from x_place_2 n 0] at e
  exact e
theorem e_placeP {g : q_G} {h : q_H} {d : Nat} {th : Int32} {al : Nat → Int32} {cg : Nat} {sv : Bool} {rs : Int32} {ac : Int32} {rj : Int32} {ro : Nat → Int32} {ad : Nat → Int32} {bf : Nat → Int32} {ln : Nat → Int32} {lz : Nat} {ip : Nat → Int32} {ty : Nat} {he : Nat} {er : Int32} {ea : Int32} {fa : Int32} {cm : Nat → Int32} {cn : Nat} {n : Nat} {mn : Nat} (smo : z_Mo h 215 th al cg sv rs ac rj ro ad bf ln lz ip ty he er ea fa cm cn n mn) (xid : Int32) (hp : 0 < x_pl n al xid) (hd : 1 ≤ d) : q_Spec g mX11_place d 0 0 [.ref 215, .int xid] h (q_ret (some (.int (nI (x_pl n al xid - 1)))) h) := by
  have e := e_place (g := g) (d := d) smo xid (by omega)
  rw [z_dn_pos (by omega)] at e
  exact e
def x_mo_isThere (al : Nat → Int32) (n : Nat) (xid : Int32) : Bool := (if x_pl n al xid = 0 then false else true)
set_option maxRecDepth 100000 in
set_option maxHeartbeats 8000000 in
theorem e_mo_isThere {g : q_G} {h : q_H} {d : Nat} {th : Int32} {al : Nat → Int32} {cg : Nat} {sv : Bool} {rs : Int32} {ac : Int32} {rj : Int32} {ro : Nat → Int32} {ad : Nat → Int32} {bf : Nat → Int32} {ln : Nat → Int32} {lz : Nat} {ip : Nat → Int32} {ty : Nat} {he : Nat} {er : Int32} {ea : Int32} {fa : Int32} {cm : Nat → Int32} {cn : Nat} {n : Nat} {mn : Nat} (smo : z_Mo h 215 th al cg sv rs ac rj ro ad bf ln lz ip ty he er ea fa cm cn n mn)  (xid : Int32)   (hd : 2 ≤ d) : q_Spec g mX11_isThere d 0 0 [.ref (215), .int (xid)] h (q_ret ((some (.int (z_b (x_mo_isThere al n xid))))) h) := by
  have hb_mo_cg := smo.bcg
  have hb_mo_lz := smo.blz
  have hb_mo_ty := smo.bty
  have hb_mo_he := smo.bhe
  have hb_mo_cn := smo.bcn
  have hb_mo_n := smo.bn
  have hb_mo_mn := smo.bmn
  have ho_mo_cg := smo.bcg
  have ho_mo_lz := smo.blz
  have ho_mo_ty := smo.bty
  have ho_mo_he := smo.bhe
  have ho_mo_cn := smo.bcn
  have ho_mo_n := smo.bn
  have ho_mo_mn := smo.bmn
  refine q_enter (by decide +kernel) rfl rfl (Nat.le_of_ble_eq_true rfl) (fun hz => ?_)
  change q_W _ _ _ _ _ _ _ _ _ [.ref (215), .int (xid)] [] _
  refine q_aload_n (by first | assumption | omega | decide | (rw [q_R0e]; omega)) dX11_isThere_0 rfl ?_
  refine q_iload_n dX11_isThere_1 rfl ?_
  have g1 : x_pl n al xid ≤ n := x_pl_le
  refine q_invV (mc' := 0) (ms' := 0) (d' := d - 1) (as := [.int (xid)]) dX11_isThere_2 kM_X11_place kL_X11_57 kI_X11_place kS_X11_place rfl (kC_X11.1) smo.c0 rfl rfl (Nat.le_of_ble_eq_true rfl) (by omega) (by decide) (by omega) (by omega) (e_place (d := d - 1) smo xid (by omega)) (q_kR ?_) q_xR
  change q_W _ _ _ _ _ _ _ _ 5 [.ref (215), .int (xid)] [.int (z_dn (x_pl n al xid))] _
  refine q_if_lt 12 dX11_isThere_5 (by decide) (fun b5 => ?_) (fun b5 => ?_)
  · have b5 : x_pl n al xid = 0 := (z_dn_lt (by omega)).mp b5
    refine q_iconst (v := 0) dX11_isThere_12 rfl ?_
    have hE : x_mo_isThere al n xid = false := by simp only [x_mo_isThere, if_pos b5]
    rw [hE]
    exact q_ireturn dX11_isThere_13 rfl rfl (by omega) (by omega) ⟨rfl, rfl⟩
  · have b5 : ¬ (x_pl n al xid = 0) := fun q => b5 ((z_dn_lt (by omega)).mpr q)
    refine q_iconst (v := 1) dX11_isThere_8 rfl ?_
    refine q_goto 13 dX11_isThere_9 (by decide) ?_
    have hE : x_mo_isThere al n xid = true := by simp only [x_mo_isThere, if_neg b5]
    rw [hE]
    exact q_ireturn dX11_isThere_13 rfl rfl (by omega) (by omega) ⟨rfl, rfl⟩
/-- whether an id is there -/
def x_th (n : Nat) (al : Nat → Int32) (xid : Int32) : Bool := decide (0 < x_pl n al xid)
theorem z_th {n : Nat} {al : Nat → Int32} {xid : Int32} (h : x_th n al xid = true) : 0 < x_pl n al xid := of_decide_eq_true h
theorem z_nth {n : Nat} {al : Nat → Int32} {xid : Int32} (h : ¬ x_th n al xid = true) : x_pl n al xid = 0 := by
  unfold x_th at h
  exact Nat.eq_zero_of_not_pos (fun q => h (decide_eq_true q))
theorem e_isThere {g : q_G} {h : q_H} {d : Nat} {th : Int32} {al : Nat → Int32} {cg : Nat} {sv : Bool} {rs : Int32} {ac : Int32} {rj : Int32} {ro : Nat → Int32} {ad : Nat → Int32} {bf : Nat → Int32} {ln : Nat → Int32} {lz : Nat} {ip : Nat → Int32} {ty : Nat} {he : Nat} {er : Int32} {ea : Int32} {fa : Int32} {cm : Nat → Int32} {cn : Nat} {n : Nat} {mn : Nat} (smo : z_Mo h 215 th al cg sv rs ac rj ro ad bf ln lz ip ty he er ea fa cm cn n mn) (xid : Int32) (hd : 2 ≤ d) : q_Spec g mX11_isThere d 0 0 [.ref 215, .int xid] h (q_ret (some (.int (z_b (x_th n al xid)))) h) := by
  have e := e_mo_isThere (g := g) (d := d) smo xid (by omega)
  rw [show x_mo_isThere al n xid = x_th n al xid by
    unfold x_mo_isThere x_th
    by_cases c : x_pl n al xid = 0
    · rw [if_pos c, c]
      rfl
    · rw [if_neg c, decide_eq_true (by omega)]] at e
  exact e
def x_mo_strength (al : Nat → Int32) (j : Nat) : Int32 := (if (1 : Int32) ≤ ((al (7 + 3 * j + 1)) - ((al (7 + 3 * j + 2)) / (10 : Int32))) then (al (7 + 3 * j + 1)) - ((al (7 + 3 * j + 2)) / (10 : Int32)) else 1)
set_option maxRecDepth 100000 in
set_option maxHeartbeats 8000000 in
theorem e_mo_strength {g : q_G} {h : q_H} {d : Nat} {th : Int32} {al : Nat → Int32} {cg : Nat} {sv : Bool} {rs : Int32} {ac : Int32} {rj : Int32} {ro : Nat → Int32} {ad : Nat → Int32} {bf : Nat → Int32} {ln : Nat → Int32} {lz : Nat} {ip : Nat → Int32} {ty : Nat} {he : Nat} {er : Int32} {ea : Int32} {fa : Int32} {cm : Nat → Int32} {cn : Nat} {n : Nat} {mn : Nat} (smo : z_Mo h 215 th al cg sv rs ac rj ro ad bf ln lz ip ty he er ea fa cm cn n mn)  (j : Nat) (hj : j < 8)  (hd : 1 ≤ d) : q_Spec g mX11_strength d 0 0 [.ref (215), .int (nI (j))] h (q_ret ((some (.int (x_mo_strength al j)))) h) := by
  have hb_mo_cg := smo.bcg
  have hb_mo_lz := smo.blz
  have hb_mo_ty := smo.bty
  have hb_mo_he := smo.bhe
  have hb_mo_cn := smo.bcn
  have hb_mo_n := smo.bn
  have hb_mo_mn := smo.bmn
  have ho_mo_cg := smo.bcg
  have ho_mo_lz := smo.blz
  have ho_mo_ty := smo.bty
  have ho_mo_he := smo.bhe
  have ho_mo_cn := smo.bcn
  have ho_mo_n := smo.bn
  have ho_mo_mn := smo.bmn
  refine q_enter (by decide +kernel) rfl rfl (Nat.le_of_ble_eq_true rfl) (fun hz => ?_)
  change q_W _ _ _ _ _ _ _ _ _ [.ref (215), .int (nI (j)), q_u] [] _
  refine q_aload_n (by first | assumption | omega | decide | (rw [q_R0e]; omega)) dX11_strength_0 rfl ?_
  refine q_iload_n dX11_strength_1 rfl ?_
  refine q_iconst (v := 1) dX11_strength_2 rfl ?_
  refine q_invV (mc' := 0) (ms' := 0) (d' := d - 1) (as := [.int (nI (j)), .int (1)]) dX11_strength_3 kM_X11_a kL_X11_53 kI_X11_a kS_X11_a rfl (kC_X11.1) smo.c0 rfl rfl (Nat.le_of_ble_eq_true rfl) (by omega) (by decide) (by omega) (by omega) (e_mo_a (d := d - 1) smo j 1 (by omega) (by omega) (by omega)) (q_kR ?_) q_xR
  change q_W _ _ _ _ _ _ _ _ 6 [.ref (215), .int (nI (j)), q_u] [.int (al (7 + 3 * j + 1))] _
  refine q_aload_n (by first | assumption | omega | decide | (rw [q_R0e]; omega)) dX11_strength_6 rfl ?_
  refine q_iload_n dX11_strength_7 rfl ?_
  refine q_iconst (v := 2) dX11_strength_8 rfl ?_
  refine q_invV (mc' := 0) (ms' := 0) (d' := d - 1) (as := [.int (nI (j)), .int (2)]) dX11_strength_9 kM_X11_a kL_X11_53 kI_X11_a kS_X11_a rfl (kC_X11.1) smo.c0 rfl rfl (Nat.le_of_ble_eq_true rfl) (by omega) (by decide) (by omega) (by omega) (e_mo_a (d := d - 1) smo j 2 (by omega) (by omega) (by omega)) (q_kR ?_) q_xR
  change q_W _ _ _ _ _ _ _ _ 12 [.ref (215), .int (nI (j)), q_u] [.int (al (7 + 3 * j + 2)), .int (al (7 + 3 * j + 1))] _
  refine q_bipush (v := 10) dX11_strength_12 rfl ?_
  refine q_idiv dX11_strength_14 (by decide) ?_
  refine q_isub dX11_strength_15 ?_
  refine q_istore_n dX11_strength_16 (by decide) rfl ?_
  change q_W _ _ _ _ _ _ _ _ _ [.ref (215), .int (nI (j)), .int ((al (7 + 3 * j + 1)) - ((al (7 + 3 * j + 2)) / (10 : Int32)))] [] _
  refine q_iload_n dX11_strength_17 rfl ?_
  refine q_iconst (v := 1) dX11_strength_18 rfl ?_
  refine q_icmp_ge 26 dX11_strength_19 (by decide) (fun b19 => ?_) (fun b19 => ?_)
  · refine q_iload_n dX11_strength_26 rfl ?_
    have hE : x_mo_strength al j = (al (7 + 3 * j + 1)) - ((al (7 + 3 * j + 2)) / (10 : Int32)) := by simp only [x_mo_strength, if_pos b19]
    rw [hE]
    exact q_ireturn dX11_strength_27 rfl rfl (by omega) (by omega) ⟨rfl, rfl⟩
  · refine q_iconst (v := 1) dX11_strength_22 rfl ?_
    refine q_goto 27 dX11_strength_23 (by decide) ?_
    have hE : x_mo_strength al j = 1 := by simp only [x_mo_strength, if_neg b19]
    rw [hE]
    exact q_ireturn dX11_strength_27 rfl rfl (by omega) (by omega) ⟨rfl, rfl⟩
def x_mo_isAttack (al : Nat → Int32) (i : Nat) (j : Nat) : Bool := (if (((al (31 + i)) >>> ((nI (j)) &&& 31)) &&& (1 : Int32)) = (1) then true else false)
set_option maxRecDepth 100000 in
set_option maxHeartbeats 8000000 in
theorem e_mo_isAttack {g : q_G} {h : q_H} {d : Nat} {th : Int32} {al : Nat → Int32} {cg : Nat} {sv : Bool} {rs : Int32} {ac : Int32} {rj : Int32} {ro : Nat → Int32} {ad : Nat → Int32} {bf : Nat → Int32} {ln : Nat → Int32} {lz : Nat} {ip : Nat → Int32} {ty : Nat} {he : Nat} {er : Int32} {ea : Int32} {fa : Int32} {cm : Nat → Int32} {cn : Nat} {n : Nat} {mn : Nat} (smo : z_Mo h 215 th al cg sv rs ac rj ro ad bf ln lz ip ty he er ea fa cm cn n mn)  (i : Nat) (j : Nat) (hi : i < 8) (hj : j < 8)  (hd : 0 ≤ d) : q_Spec g mX11_isAttack d 0 0 [.ref (215), .int (nI (i)), .int (nI (j))] h (q_ret ((some (.int (z_b (x_mo_isAttack al i j))))) h) := by
  have hb_mo_cg := smo.bcg
  have hb_mo_lz := smo.blz
  have hb_mo_ty := smo.bty
  have hb_mo_he := smo.bhe
  have hb_mo_cn := smo.bcn
  have hb_mo_n := smo.bn
  have hb_mo_mn := smo.bmn
  have ho_mo_cg := smo.bcg
  have ho_mo_lz := smo.blz
  have ho_mo_ty := smo.bty
  have ho_mo_he := smo.bhe
  have ho_mo_cn := smo.bcn
  have ho_mo_n := smo.bn
  have ho_mo_mn := smo.bmn
  refine q_enter (by decide +kernel) rfl rfl (Nat.le_of_ble_eq_true rfl) (fun hz => ?_)
  change q_W _ _ _ _ _ _ _ _ _ [.ref (215), .int (nI (i)), .int (nI (j))] [] _
  refine q_aload_n (by first | assumption | omega | decide | (rw [q_R0e]; omega)) dX11_isAttack_0 rfl ?_
  refine q_getf (k := 1) (v := .ref (216)) kC_X11 kL_X11_9 rfl (by decide) dX11_isAttack_1 smo.c0 rfl ?_
  refine q_bipush (v := 31) dX11_isAttack_4 rfl ?_
  refine q_iload_n dX11_isAttack_6 rfl ?_
  refine q_iaddN (a := 31) (b := i) dX11_isAttack_7 ?_
  change q_W _ _ _ _ _ _ _ _ _ _ [.int (nI (31 + i)), .ref (216)] _
  refine q_ialdN (j := 31 + i) (f := al) dX11_isAttack_8 smo.c1 (by omega) (by decide) ?_
  change q_W _ _ _ _ _ _ _ _ _ _ [.int (al (31 + i))] _
  refine q_iload_n dX11_isAttack_9 rfl ?_
  refine q_ishr dX11_isAttack_10 ?_
  refine q_iconst (v := 1) dX11_isAttack_11 rfl ?_
  refine q_iand dX11_isAttack_12 ?_
  refine q_iconst (v := 1) dX11_isAttack_13 rfl ?_
  refine q_icmp_ne 21 dX11_isAttack_14 (by decide) (fun b14 => ?_) (fun b14 => ?_)
  · refine q_iconst (v := 0) dX11_isAttack_21 rfl ?_
    have hE : x_mo_isAttack al i j = false := by simp only [x_mo_isAttack, if_neg b14]
    rw [hE]
    exact q_ireturn dX11_isAttack_22 rfl rfl (by omega) (by omega) ⟨rfl, rfl⟩
  · refine q_iconst (v := 1) dX11_isAttack_17 rfl ?_
    refine q_goto 22 dX11_isAttack_18 (by decide) ?_
    have hE : x_mo_isAttack al i j = true := by simp only [x_mo_isAttack, if_pos b14]
    rw [hE]
    exact q_ireturn dX11_isAttack_22 rfl rfl (by omega) (by omega) ⟨rfl, rfl⟩
def x_mo_wins (al : Nat → Int32) (i : Nat) (j : Nat) : Bool := (if x_mo_isAttack al i j then (if (x_mo_strength al i) < (x_mo_strength al j) then false else true) else false)
set_option maxRecDepth 100000 in
set_option maxHeartbeats 8000000 in
theorem e_mo_wins {g : q_G} {h : q_H} {d : Nat} {th : Int32} {al : Nat → Int32} {cg : Nat} {sv : Bool} {rs : Int32} {ac : Int32} {rj : Int32} {ro : Nat → Int32} {ad : Nat → Int32} {bf : Nat → Int32} {ln : Nat → Int32} {lz : Nat} {ip : Nat → Int32} {ty : Nat} {he : Nat} {er : Int32} {ea : Int32} {fa : Int32} {cm : Nat → Int32} {cn : Nat} {n : Nat} {mn : Nat} (smo : z_Mo h 215 th al cg sv rs ac rj ro ad bf ln lz ip ty he er ea fa cm cn n mn)  (i : Nat) (j : Nat) (hi : i < 8) (hj : j < 8)  (hd : 2 ≤ d) : q_Spec g mX11_wins d 0 0 [.ref (215), .int (nI (i)), .int (nI (j))] h (q_ret ((some (.int (z_b (x_mo_wins al i j))))) h) := by
  have hb_mo_cg := smo.bcg
  have hb_mo_lz := smo.blz
  have hb_mo_ty := smo.bty
  have hb_mo_he := smo.bhe
  have hb_mo_cn := smo.bcn
  have hb_mo_n := smo.bn
  have hb_mo_mn := smo.bmn
  have ho_mo_cg := smo.bcg
  have ho_mo_lz := smo.blz
  have ho_mo_ty := smo.bty
  have ho_mo_he := smo.bhe
  have ho_mo_cn := smo.bcn
  have ho_mo_n := smo.bn
  have ho_mo_mn := smo.bmn
  refine q_enter (by decide +kernel) rfl rfl (Nat.le_of_ble_eq_true rfl) (fun hz => ?_)
  change q_W _ _ _ _ _ _ _ _ _ [.ref (215), .int (nI (i)), .int (nI (j))] [] _
  refine q_aload_n (by first | assumption | omega | decide | (rw [q_R0e]; omega)) dX11_wins_0 rfl ?_
  refine q_iload_n dX11_wins_1 rfl ?_
  refine q_iload_n dX11_wins_2 rfl ?_
  refine q_invV (mc' := 0) (ms' := 0) (d' := d - 1) (as := [.int (nI (i)), .int (nI (j))]) dX11_wins_3 kM_X11_isAttack kL_X11_61 kI_X11_isAttack kS_X11_isAttack rfl (kC_X11.1) smo.c0 rfl rfl (Nat.le_of_ble_eq_true rfl) (by omega) (by decide) (by omega) (by omega) (e_mo_isAttack (d := d - 1) smo i j (by omega) (by omega) (by omega)) (q_kR ?_) q_xR
  change q_W _ _ _ _ _ _ _ _ 6 [.ref (215), .int (nI (i)), .int (nI (j))] [.int (z_b (x_mo_isAttack al i j))] _
  refine q_if_eq 26 dX11_wins_6 (by decide) (fun b6 => ?_) (fun b6 => ?_)
  · have b6 := z_b0n b6
    refine q_iconst (v := 0) dX11_wins_26 rfl ?_
    have hE : x_mo_wins al i j = false := by simp only [x_mo_wins, if_neg b6]
    rw [hE]
    exact q_ireturn dX11_wins_27 rfl rfl (by omega) (by omega) ⟨rfl, rfl⟩
  · have b6 := z_b1 b6
    refine q_aload_n (by first | assumption | omega | decide | (rw [q_R0e]; omega)) dX11_wins_9 rfl ?_
    refine q_iload_n dX11_wins_10 rfl ?_
    refine q_invV (mc' := 0) (ms' := 0) (d' := d - 1) (as := [.int (nI (i))]) dX11_wins_11 kM_X11_strength kL_X11_65 kI_X11_strength kS_X11_strength rfl (kC_X11.1) smo.c0 rfl rfl (Nat.le_of_ble_eq_true rfl) (by omega) (by decide) (by omega) (by omega) (e_mo_strength (d := d - 1) smo i (by omega) (by omega)) (q_kR ?_) q_xR
    change q_W _ _ _ _ _ _ _ _ 14 [.ref (215), .int (nI (i)), .int (nI (j))] [.int (x_mo_strength al i)] _
    refine q_aload_n (by first | assumption | omega | decide | (rw [q_R0e]; omega)) dX11_wins_14 rfl ?_
    refine q_iload_n dX11_wins_15 rfl ?_
    refine q_invV (mc' := 0) (ms' := 0) (d' := d - 1) (as := [.int (nI (j))]) dX11_wins_16 kM_X11_strength kL_X11_65 kI_X11_strength kS_X11_strength rfl (kC_X11.1) smo.c0 rfl rfl (Nat.le_of_ble_eq_true rfl) (by omega) (by decide) (by omega) (by omega) (e_mo_strength (d := d - 1) smo j (by omega) (by omega)) (q_kR ?_) q_xR
    change q_W _ _ _ _ _ _ _ _ 19 [.ref (215), .int (nI (i)), .int (nI (j))] [.int (x_mo_strength al j), .int (x_mo_strength al i)] _
    refine q_icmp_lt 26 dX11_wins_19 (by decide) (fun b19 => ?_) (fun b19 => ?_)
    · refine q_iconst (v := 0) dX11_wins_26 rfl ?_
      have hE : x_mo_wins al i j = false := by simp only [x_mo_wins, if_pos b6, if_pos b19]
      rw [hE]
      exact q_ireturn dX11_wins_27 rfl rfl (by omega) (by omega) ⟨rfl, rfl⟩
    · refine q_iconst (v := 1) dX11_wins_22 rfl ?_
      refine q_goto 27 dX11_wins_23 (by decide) ?_
      have hE : x_mo_wins al i j = true := by simp only [x_mo_wins, if_pos b6, if_neg b19]
      rw [hE]
      exact q_ireturn dX11_wins_27 rfl rfl (by omega) (by omega) ⟨rfl, rfl⟩
def x_mo_size_4 (xs : Int32) : Nat → Nat → (Int32) → (Int32)
  | 0, _, c4_1 => c4_1
  | r + 1, k, c4_1 => x_mo_size_4 xs r (k + 1) (c4_1 + ((xs >>> ((nI (k)) &&& 31)) &&& (1 : Int32)))
set_option maxRecDepth 100000 in
set_option maxHeartbeats 8000000 in
theorem l_mo_size_4 {g : q_G} {h : q_H} {d mc ms kc ks : Nat} {Q : q_O → q_H → Prop} {xs : Int32}     (hd : 0 ≤ d) (hkc : kc + 0 ≤ mc) (hks : ks + 0 ≤ ms) : ∀ (r k : Nat) (c4_1 : Int32) (hk_4 : k + r = 8) (K : ∀ (r4_0 : Int32), x_mo_size_4 xs r k c4_1 = r4_0 → q_W g mX11_size d mc ms Q kc ks 24 [q_u, .int (r4_0), q_u] [] h), q_W g mX11_size d mc ms Q kc ks 4 [.int (xs), .int (c4_1), .int (nI (k))] [] h := by
  intro r
  induction r with
  | zero =>
    intro k c4_1  hk_4 K
    refine q_iload_n dX11_size_4 rfl ?_
    refine q_bipush (v := 8) dX11_size_5 rfl ?_
    refine q_icmp_ge 24 dX11_size_7 (by decide) (fun b7 => ?_) (fun b7 => ?_)
    · have b7 := (nI_leI (a := 8) (b := k) (by omega) (by omega)).mp b7
      refine q_forget 0 ?_
      refine q_forget 2 ?_
      change q_W _ _ _ _ _ _ _ _ _ [q_u, .int (c4_1), q_u] [] _
      exact K c4_1 (by simp only [x_mo_size_4])
    · have b7 : ¬ (8 ≤ k) := fun q => b7 ((nI_leI (a := 8) (b := k) (by omega) (by omega)).mpr q)
      exact absurd b7 (by omega)
  | succ r ih =>
    intro k c4_1  hk_4 K
    refine q_iload_n dX11_size_4 rfl ?_
    refine q_bipush (v := 8) dX11_size_5 rfl ?_
    refine q_icmp_ge 24 dX11_size_7 (by decide) (fun b7 => ?_) (fun b7 => ?_)
    · have b7 := (nI_leI (a := 8) (b := k) (by omega) (by omega)).mp b7
      exact absurd b7 (by omega)
    · have b7 : ¬ (8 ≤ k) := fun q => b7 ((nI_leI (a := 8) (b := k) (by omega) (by omega)).mpr q)
      refine q_iload_n dX11_size_10 rfl ?_
      refine q_iload_n dX11_size_11 rfl ?_
      refine q_iload_n dX11_size_12 rfl ?_
      refine q_ishr dX11_size_13 ?_
      refine q_iconst (v := 1) dX11_size_14 rfl ?_
      refine q_iand dX11_size_15 ?_
      refine q_iadd dX11_size_16 ?_
      refine q_istore_n dX11_size_17 (by decide) rfl ?_
      change q_W _ _ _ _ _ _ _ _ _ [.int (xs), .int (c4_1 + ((xs >>> ((nI (k)) &&& 31)) &&& (1 : Int32))), .int (nI (k))] [] _
      refine q_iinc (x := nI (k)) (v := nI (k + 1)) dX11_size_18 rfl (nI_add _ 1) rfl ?_
      change q_W _ _ _ _ _ _ _ _ _ [.int (xs), .int (c4_1 + ((xs >>> ((nI (k)) &&& 31)) &&& (1 : Int32))), .int (nI (k + 1))] [] _
      refine q_goto 4 dX11_size_21 (by decide) ?_
      change q_W _ _ _ _ _ _ _ _ _ [.int (xs), .int (c4_1 + ((xs >>> ((nI (k)) &&& 31)) &&& (1 : Int32))), .int (nI (k + 1))] [] _
      exact ih (k + 1) (c4_1 + ((xs >>> ((nI (k)) &&& 31)) &&& (1 : Int32))) (by omega) (fun r4_0 e9 => K r4_0 (by simp only [x_mo_size_4]; exact e9))
def x_mo_size (xs : Int32) : Int32 := (let a1_0 := x_mo_size_4 xs 8 0 0; a1_0)
set_option maxRecDepth 100000 in
set_option maxHeartbeats 8000000 in
theorem e_mo_size {g : q_G} {h : q_H} {d : Nat}   (xs : Int32)   (hd : 0 ≤ d) : q_Spec g mX11_size d 0 0 [.int (xs)] h (q_ret ((some (.int (x_mo_size xs)))) h) := by
  refine q_enter (by decide +kernel) rfl rfl (Nat.le_of_ble_eq_true rfl) (fun hz => ?_)
  change q_W _ _ _ _ _ _ _ _ _ [.int (xs), q_u, q_u] [] _
  refine q_iconst (v := 0) dX11_size_0 rfl ?_
  refine q_istore_n dX11_size_1 (by decide) rfl ?_
  change q_W _ _ _ _ _ _ _ _ _ [.int (xs), .int (0), q_u] [] _
  refine q_iconst (v := 0) dX11_size_2 rfl ?_
  refine q_istore_n dX11_size_3 (by decide) rfl ?_
  change q_W _ _ _ _ _ _ _ _ _ [.int (xs), .int (0), .int (0)] [] _
  change q_W _ _ _ _ _ _ _ _ _ [.int (xs), .int (0), .int (0)] [] _
  refine l_mo_size_4 (by omega) (by omega) (by omega) 8 0 0 (by omega) (fun a1_0 x1 => ?_)
  change q_W _ _ _ _ _ _ _ _ 24 [q_u, .int (a1_0), q_u] [] _
  refine q_iload_n dX11_size_24 rfl ?_
  have hE : x_mo_size xs = a1_0 := by simp only [x_mo_size, x1]
  rw [hE]
  exact q_ireturn dX11_size_25 rfl rfl (by omega) (by omega) ⟨rfl, rfl⟩
def x_mo_attacks_4 (al : Nat → Int32) : Nat → Nat → (Int32) → (Int32)
  | 0, _, c4_1 => c4_1
  | r + 1, k, c4_1 => x_mo_attacks_4 al r (k + 1) (c4_1 + (x_mo_size (al (31 + k))))
set_option maxRecDepth 100000 in
set_option maxHeartbeats 8000000 in
theorem l_mo_attacks_4 {g : q_G} {h : q_H} {d mc ms kc ks : Nat} {Q : q_O → q_H → Prop} {th : Int32} {al : Nat → Int32} {cg : Nat} {sv : Bool} {rs : Int32} {ac : Int32} {rj : Int32} {ro : Nat → Int32} {ad : Nat → Int32} {bf : Nat → Int32} {ln : Nat → Int32} {lz : Nat} {ip : Nat → Int32} {ty : Nat} {he : Nat} {er : Int32} {ea : Int32} {fa : Int32} {cm : Nat → Int32} {cn : Nat} {n : Nat} {mn : Nat} (smo : z_Mo h 215 th al cg sv rs ac rj ro ad bf ln lz ip ty he er ea fa cm cn n mn)  (ho_mo_cg : cg ≤ 8) (ho_mo_lz : lz ≤ 160) (ho_mo_ty : ty ≤ 60) (ho_mo_he : he ≤ 60) (ho_mo_cn : cn ≤ 61) (ho_mo_n : n ≤ 8) (ho_mo_mn : mn ≤ 12)  (hd : 1 ≤ d) (hkc : kc + 0 ≤ mc) (hks : ks + 0 ≤ ms) : ∀ (r k : Nat) (c4_1 : Int32) (hk_4 : k + r = n) (K : ∀ (r4_0 : Int32), x_mo_attacks_4 al r k c4_1 = r4_0 → q_W g mX11_attacks d mc ms Q kc ks 35 [q_u, .int (r4_0), q_u] [] h), q_W g mX11_attacks d mc ms Q kc ks 4 [.ref (215), .int (c4_1), .int (nI (k))] [] h := by
  intro r
  induction r with
  | zero =>
    intro k c4_1  hk_4 K
    have hb_mo_cg := smo.bcg
    have hb_mo_lz := smo.blz
    have hb_mo_ty := smo.bty
    have hb_mo_he := smo.bhe
    have hb_mo_cn := smo.bcn
    have hb_mo_n := smo.bn
    have hb_mo_mn := smo.bmn
    refine q_iload_n dX11_attacks_4 rfl ?_
    refine q_aload_n (by first | assumption | omega | decide | (rw [q_R0e]; omega)) dX11_attacks_5 rfl ?_
    refine q_getf (k := 1) (v := .ref (216)) kC_X11 kL_X11_9 rfl (by decide) dX11_attacks_6 smo.c0 rfl ?_
    refine q_iconst (v := 0) dX11_attacks_9 rfl ?_
    refine q_ialdN (j := 0) (f := al) dX11_attacks_10 smo.c1 (by omega) (by decide) ?_
    rw [smo.en]
    change q_W _ _ _ _ _ _ _ _ _ _ [.int (nI (n)), .int (nI (k))] _
    refine q_icmp_ge 35 dX11_attacks_11 (by decide) (fun b11 => ?_) (fun b11 => ?_)
    · have b11 := (nI_leI (a := n) (b := k) (by omega) (by omega)).mp b11
      refine q_forget 0 ?_
      refine q_forget 2 ?_
      change q_W _ _ _ _ _ _ _ _ _ [q_u, .int (c4_1), q_u] [] _
      exact K c4_1 (by simp only [x_mo_attacks_4])
    · have b11 : ¬ (n ≤ k) := fun q => b11 ((nI_leI (a := n) (b := k) (by omega) (by omega)).mpr q)
      exact absurd b11 (by omega)
  | succ r ih =>
    intro k c4_1  hk_4 K
    have hb_mo_cg := smo.bcg
    have hb_mo_lz := smo.blz
    have hb_mo_ty := smo.bty
    have hb_mo_he := smo.bhe
    have hb_mo_cn := smo.bcn
    have hb_mo_n := smo.bn
    have hb_mo_mn := smo.bmn
    refine q_iload_n dX11_attacks_4 rfl ?_
    refine q_aload_n (by first | assumption | omega | decide | (rw [q_R0e]; omega)) dX11_attacks_5 rfl ?_
    refine q_getf (k := 1) (v := .ref (216)) kC_X11 kL_X11_9 rfl (by decide) dX11_attacks_6 smo.c0 rfl ?_
    refine q_iconst (v := 0) dX11_attacks_9 rfl ?_
    refine q_ialdN (j := 0) (f := al) dX11_attacks_10 smo.c1 (by omega) (by decide) ?_
    rw [smo.en]
    change q_W _ _ _ _ _ _ _ _ _ _ [.int (nI (n)), .int (nI (k))] _
    refine q_icmp_ge 35 dX11_attacks_11 (by decide) (fun b11 => ?_) (fun b11 => ?_)
    · have b11 := (nI_leI (a := n) (b := k) (by omega) (by omega)).mp b11
      exact absurd b11 (by omega)
    · have b11 : ¬ (n ≤ k) := fun q => b11 ((nI_leI (a := n) (b := k) (by omega) (by omega)).mpr q)
      refine q_iload_n dX11_attacks_14 rfl ?_
      refine q_aload_n (by first | assumption | omega | decide | (rw [q_R0e]; omega)) dX11_attacks_15 rfl ?_
      refine q_getf (k := 1) (v := .ref (216)) kC_X11 kL_X11_9 rfl (by decide) dX11_attacks_16 smo.c0 rfl ?_
      refine q_bipush (v := 31) dX11_attacks_19 rfl ?_
      refine q_iload_n dX11_attacks_21 rfl ?_
      refine q_iaddN (a := 31) (b := k) dX11_attacks_22 ?_
      change q_W _ _ _ _ _ _ _ _ _ _ [.int (nI (31 + k)), .ref (216), .int (c4_1)] _
      refine q_ialdN (j := 31 + k) (f := al) dX11_attacks_23 smo.c1 (by omega) (by decide) ?_
      change q_W _ _ _ _ _ _ _ _ _ _ [.int (al (31 + k)), .int (c4_1)] _
      refine q_invS (mc' := 0) (ms' := 0) (d' := d - 1) (as := [.int (al (31 + k))]) dX11_attacks_24 kM_X11_size kL_X11_68 kT_X11_size rfl rfl rfl (Nat.le_of_ble_eq_true rfl) (by omega) (by decide) (by omega) (by omega) (e_mo_size (d := d - 1) (al (31 + k)) (by omega)) (q_kR ?_) q_xR
      change q_W _ _ _ _ _ _ _ _ 27 [.ref (215), .int (c4_1), .int (nI (k))] [.int (x_mo_size (al (31 + k))), .int (c4_1)] _
      refine q_iadd dX11_attacks_27 ?_
      refine q_istore_n dX11_attacks_28 (by decide) rfl ?_
      change q_W _ _ _ _ _ _ _ _ _ [.ref (215), .int (c4_1 + (x_mo_size (al (31 + k)))), .int (nI (k))] [] _
      refine q_iinc (x := nI (k)) (v := nI (k + 1)) dX11_attacks_29 rfl (nI_add _ 1) rfl ?_
      change q_W _ _ _ _ _ _ _ _ _ [.ref (215), .int (c4_1 + (x_mo_size (al (31 + k)))), .int (nI (k + 1))] [] _
      refine q_goto 4 dX11_attacks_32 (by decide) ?_
      change q_W _ _ _ _ _ _ _ _ _ [.ref (215), .int (c4_1 + (x_mo_size (al (31 + k)))), .int (nI (k + 1))] [] _
      exact ih (k + 1) (c4_1 + (x_mo_size (al (31 + k)))) (by omega) (fun r4_0 e9 => K r4_0 (by simp only [x_mo_attacks_4]; exact e9))
def x_mo_attacks (al : Nat → Int32) (n : Nat) : Int32 := (let a1_0 := x_mo_attacks_4 al n 0 0; a1_0)
set_option maxRecDepth 100000 in
set_option maxHeartbeats 8000000 in
theorem e_mo_attacks {g : q_G} {h : q_H} {d : Nat} {th : Int32} {al : Nat → Int32} {cg : Nat} {sv : Bool} {rs : Int32} {ac : Int32} {rj : Int32} {ro : Nat → Int32} {ad : Nat → Int32} {bf : Nat → Int32} {ln : Nat → Int32} {lz : Nat} {ip : Nat → Int32} {ty : Nat} {he : Nat} {er : Int32} {ea : Int32} {fa : Int32} {cm : Nat → Int32} {cn : Nat} {n : Nat} {mn : Nat} (smo : z_Mo h 215 th al cg sv rs ac rj ro ad bf ln lz ip ty he er ea fa cm cn n mn)     (hd : 1 ≤ d) : q_Spec g mX11_attacks d 0 0 [.ref (215)] h (q_ret ((some (.int (x_mo_attacks al n)))) h) := by
  have hb_mo_cg := smo.bcg
  have hb_mo_lz := smo.blz
  have hb_mo_ty := smo.bty
  have hb_mo_he := smo.bhe
  have hb_mo_cn := smo.bcn
  have hb_mo_n := smo.bn
  have hb_mo_mn := smo.bmn
  have ho_mo_cg := smo.bcg
  have ho_mo_lz := smo.blz
  have ho_mo_ty := smo.bty
  have ho_mo_he := smo.bhe
  have ho_mo_cn := smo.bcn
  have ho_mo_n := smo.bn
  have ho_mo_mn := smo.bmn
  refine q_enter (by decide +kernel) rfl rfl (Nat.le_of_ble_eq_true rfl) (fun hz => ?_)
  change q_W _ _ _ _ _ _ _ _ _ [.ref (215), q_u, q_u] [] _
  refine q_iconst (v := 0) dX11_attacks_0 rfl ?_
  refine q_istore_n dX11_attacks_1 (by decide) rfl ?_
  change q_W _ _ _ _ _ _ _ _ _ [.ref (215), .int (0), q_u] [] _
  refine q_iconst (v := 0) dX11_attacks_2 rfl ?_
  refine q_istore_n dX11_attacks_3 (by decide) rfl ?_
  change q_W _ _ _ _ _ _ _ _ _ [.ref (215), .int (0), .int (0)] [] _
  change q_W _ _ _ _ _ _ _ _ _ [.ref (215), .int (0), .int (0)] [] _
  refine l_mo_attacks_4 smo ho_mo_cg ho_mo_lz ho_mo_ty ho_mo_he ho_mo_cn ho_mo_n ho_mo_mn (by omega) (by omega) (by omega) n 0 0 (by omega) (fun a1_0 x1 => ?_)
  change q_W _ _ _ _ _ _ _ _ 35 [q_u, .int (a1_0), q_u] [] _
  refine q_iload_n dX11_attacks_35 rfl ?_
  have hE : x_mo_attacks al n = a1_0 := by simp only [x_mo_attacks, x1]
  rw [hE]
  exact q_ireturn dX11_attacks_36 rfl rfl (by omega) (by omega) ⟨rfl, rfl⟩
def x_mo_attackers_4 (al : Nat → Int32) (j : Nat) : Nat → Nat → (Int32) → (Int32)
  | 0, _, c4_2 => c4_2
  | r + 1, k, c4_2 => (if x_mo_wins al k j then x_mo_attackers_4 al j r (k + 1) (c4_2 ||| ((1 : Int32) <<< ((nI (k)) &&& 31))) else x_mo_attackers_4 al j r (k + 1) (c4_2 ||| (0 : Int32)))
set_option maxRecDepth 100000 in
set_option maxHeartbeats 8000000 in
theorem l_mo_attackers_4 {g : q_G} {h : q_H} {d mc ms kc ks : Nat} {Q : q_O → q_H → Prop} {th : Int32} {al : Nat → Int32} {cg : Nat} {sv : Bool} {rs : Int32} {ac : Int32} {rj : Int32} {ro : Nat → Int32} {ad : Nat → Int32} {bf : Nat → Int32} {ln : Nat → Int32} {lz : Nat} {ip : Nat → Int32} {ty : Nat} {he : Nat} {er : Int32} {ea : Int32} {fa : Int32} {cm : Nat → Int32} {cn : Nat} {n : Nat} {mn : Nat} {j : Nat} (smo : z_Mo h 215 th al cg sv rs ac rj ro ad bf ln lz ip ty he er ea fa cm cn n mn)  (hj : j < 8) (ho_mo_cg : cg ≤ 8) (ho_mo_lz : lz ≤ 160) (ho_mo_ty : ty ≤ 60) (ho_mo_he : he ≤ 60) (ho_mo_cn : cn ≤ 61) (ho_mo_n : n ≤ 8) (ho_mo_mn : mn ≤ 12)  (hd : 3 ≤ d) (hkc : kc + 0 ≤ mc) (hks : ks + 0 ≤ ms) : ∀ (r k : Nat) (c4_2 : Int32) (hk_4 : k + r = n) (K : ∀ (r4_0 : Int32), x_mo_attackers_4 al j r k c4_2 = r4_0 → q_W g mX11_attackers d mc ms Q kc ks 39 [q_u, q_u, .int (r4_0), q_u] [] h), q_W g mX11_attackers d mc ms Q kc ks 4 [.ref (215), .int (nI (j)), .int (c4_2), .int (nI (k))] [] h := by
  intro r
  induction r with
  | zero =>
    intro k c4_2  hk_4 K
    have hb_mo_cg := smo.bcg
    have hb_mo_lz := smo.blz
    have hb_mo_ty := smo.bty
    have hb_mo_he := smo.bhe
    have hb_mo_cn := smo.bcn
    have hb_mo_n := smo.bn
    have hb_mo_mn := smo.bmn
    refine q_iload_n dX11_attackers_4 rfl ?_
    refine q_aload_n (by first | assumption | omega | decide | (rw [q_R0e]; omega)) dX11_attackers_5 rfl ?_
    refine q_getf (k := 1) (v := .ref (216)) kC_X11 kL_X11_9 rfl (by decide) dX11_attackers_6 smo.c0 rfl ?_
    refine q_iconst (v := 0) dX11_attackers_9 rfl ?_
    refine q_ialdN (j := 0) (f := al) dX11_attackers_10 smo.c1 (by omega) (by decide) ?_
    rw [smo.en]
    change q_W _ _ _ _ _ _ _ _ _ _ [.int (nI (n)), .int (nI (k))] _
    refine q_icmp_ge 39 dX11_attackers_11 (by decide) (fun b11 => ?_) (fun b11 => ?_)
    · have b11 := (nI_leI (a := n) (b := k) (by omega) (by omega)).mp b11
      refine q_forget 0 ?_
      refine q_forget 1 ?_
      refine q_forget 3 ?_
      change q_W _ _ _ _ _ _ _ _ _ [q_u, q_u, .int (c4_2), q_u] [] _
      exact K c4_2 (by simp only [x_mo_attackers_4])
    · have b11 : ¬ (n ≤ k) := fun q => b11 ((nI_leI (a := n) (b := k) (by omega) (by omega)).mpr q)
      exact absurd b11 (by omega)
  | succ r ih =>
    intro k c4_2  hk_4 K
    have hb_mo_cg := smo.bcg
    have hb_mo_lz := smo.blz
    have hb_mo_ty := smo.bty
    have hb_mo_he := smo.bhe
    have hb_mo_cn := smo.bcn
    have hb_mo_n := smo.bn
    have hb_mo_mn := smo.bmn
    refine q_iload_n dX11_attackers_4 rfl ?_
    refine q_aload_n (by first | assumption | omega | decide | (rw [q_R0e]; omega)) dX11_attackers_5 rfl ?_
    refine q_getf (k := 1) (v := .ref (216)) kC_X11 kL_X11_9 rfl (by decide) dX11_attackers_6 smo.c0 rfl ?_
    refine q_iconst (v := 0) dX11_attackers_9 rfl ?_
    refine q_ialdN (j := 0) (f := al) dX11_attackers_10 smo.c1 (by omega) (by decide) ?_
    rw [smo.en]
    change q_W _ _ _ _ _ _ _ _ _ _ [.int (nI (n)), .int (nI (k))] _
    refine q_icmp_ge 39 dX11_attackers_11 (by decide) (fun b11 => ?_) (fun b11 => ?_)
    · have b11 := (nI_leI (a := n) (b := k) (by omega) (by omega)).mp b11
      exact absurd b11 (by omega)
    · have b11 : ¬ (n ≤ k) := fun q => b11 ((nI_leI (a := n) (b := k) (by omega) (by omega)).mpr q)
      refine q_iload_n dX11_attackers_14 rfl ?_
      refine q_aload_n (by first | assumption | omega | decide | (rw [q_R0e]; omega)) dX11_attackers_15 rfl ?_
      refine q_iload_n dX11_attackers_16 rfl ?_
      refine q_iload_n dX11_attackers_17 rfl ?_
      refine q_invV (mc' := 0) (ms' := 0) (d' := d - 1) (as := [.int (nI (k)), .int (nI (j))]) dX11_attackers_18 kM_X11_wins kL_X11_71 kI_X11_wins kS_X11_wins rfl (kC_X11.1) smo.c0 rfl rfl (Nat.le_of_ble_eq_true rfl) (by omega) (by decide) (by omega) (by omega) (e_mo_wins (d := d - 1) smo k j (by omega) (by omega) (by omega)) (q_kR ?_) q_xR
      change q_W _ _ _ _ _ _ _ _ 21 [.ref (215), .int (nI (j)), .int (c4_2), .int (nI (k))] [.int (z_b (x_mo_wins al k j)), .int (c4_2)] _
      refine q_if_eq 30 dX11_attackers_21 (by decide) (fun b21 => ?_) (fun b21 => ?_)
      · have b21 := z_b0n b21
        refine q_iconst (v := 0) dX11_attackers_30 rfl ?_
        refine q_ior dX11_attackers_31 ?_
        refine q_istore_n dX11_attackers_32 (by decide) rfl ?_
        change q_W _ _ _ _ _ _ _ _ _ [.ref (215), .int (nI (j)), .int (c4_2 ||| (0 : Int32)), .int (nI (k))] [] _
        refine q_iinc (x := nI (k)) (v := nI (k + 1)) dX11_attackers_33 rfl (nI_add _ 1) rfl ?_
        change q_W _ _ _ _ _ _ _ _ _ [.ref (215), .int (nI (j)), .int (c4_2 ||| (0 : Int32)), .int (nI (k + 1))] [] _
        refine q_goto 4 dX11_attackers_36 (by decide) ?_
        change q_W _ _ _ _ _ _ _ _ _ [.ref (215), .int (nI (j)), .int (c4_2 ||| (0 : Int32)), .int (nI (k + 1))] [] _
        exact ih (k + 1) (c4_2 ||| (0 : Int32)) (by omega) (fun r4_0 e9 => K r4_0 (by simp only [x_mo_attackers_4, if_neg b21]; exact e9))
      · have b21 := z_b1 b21
        refine q_iconst (v := 1) dX11_attackers_24 rfl ?_
        refine q_iload_n dX11_attackers_25 rfl ?_
        refine q_ishl dX11_attackers_26 ?_
        refine q_goto 31 dX11_attackers_27 (by decide) ?_
        refine q_ior dX11_attackers_31 ?_
        refine q_istore_n dX11_attackers_32 (by decide) rfl ?_
        change q_W _ _ _ _ _ _ _ _ _ [.ref (215), .int (nI (j)), .int (c4_2 ||| ((1 : Int32) <<< ((nI (k)) &&& 31))), .int (nI (k))] [] _
        refine q_iinc (x := nI (k)) (v := nI (k + 1)) dX11_attackers_33 rfl (nI_add _ 1) rfl ?_
        change q_W _ _ _ _ _ _ _ _ _ [.ref (215), .int (nI (j)), .int (c4_2 ||| ((1 : Int32) <<< ((nI (k)) &&& 31))), .int (nI (k + 1))] [] _
        refine q_goto 4 dX11_attackers_36 (by decide) ?_
        change q_W _ _ _ _ _ _ _ _ _ [.ref (215), .int (nI (j)), .int (c4_2 ||| ((1 : Int32) <<< ((nI (k)) &&& 31))), .int (nI (k + 1))] [] _
        exact ih (k + 1) (c4_2 ||| ((1 : Int32) <<< ((nI (k)) &&& 31))) (by omega) (fun r4_0 e9 => K r4_0 (by simp only [x_mo_attackers_4, if_pos b21]; exact e9))
def x_mo_attackers (al : Nat → Int32) (n : Nat) (j : Nat) : Int32 := (let a1_0 := x_mo_attackers_4 al j n 0 0; a1_0)
set_option maxRecDepth 100000 in
set_option maxHeartbeats 8000000 in
theorem e_mo_attackers {g : q_G} {h : q_H} {d : Nat} {th : Int32} {al : Nat → Int32} {cg : Nat} {sv : Bool} {rs : Int32} {ac : Int32} {rj : Int32} {ro : Nat → Int32} {ad : Nat → Int32} {bf : Nat → Int32} {ln : Nat → Int32} {lz : Nat} {ip : Nat → Int32} {ty : Nat} {he : Nat} {er : Int32} {ea : Int32} {fa : Int32} {cm : Nat → Int32} {cn : Nat} {n : Nat} {mn : Nat} (smo : z_Mo h 215 th al cg sv rs ac rj ro ad bf ln lz ip ty he er ea fa cm cn n mn)  (j : Nat) (hj : j < 8)  (hd : 3 ≤ d) : q_Spec g mX11_attackers d 0 0 [.ref (215), .int (nI (j))] h (q_ret ((some (.int (x_mo_attackers al n j)))) h) := by
  have hb_mo_cg := smo.bcg
  have hb_mo_lz := smo.blz
  have hb_mo_ty := smo.bty
  have hb_mo_he := smo.bhe
  have hb_mo_cn := smo.bcn
  have hb_mo_n := smo.bn
  have hb_mo_mn := smo.bmn
  have ho_mo_cg := smo.bcg
  have ho_mo_lz := smo.blz
  have ho_mo_ty := smo.bty
  have ho_mo_he := smo.bhe
  have ho_mo_cn := smo.bcn
  have ho_mo_n := smo.bn
  have ho_mo_mn := smo.bmn
  refine q_enter (by decide +kernel) rfl rfl (Nat.le_of_ble_eq_true rfl) (fun hz => ?_)
  change q_W _ _ _ _ _ _ _ _ _ [.ref (215), .int (nI (j)), q_u, q_u] [] _
  refine q_iconst (v := 0) dX11_attackers_0 rfl ?_
  refine q_istore_n dX11_attackers_1 (by decide) rfl ?_
  change q_W _ _ _ _ _ _ _ _ _ [.ref (215), .int (nI (j)), .int (0), q_u] [] _
  refine q_iconst (v := 0) dX11_attackers_2 rfl ?_
  refine q_istore_n dX11_attackers_3 (by decide) rfl ?_
  change q_W _ _ _ _ _ _ _ _ _ [.ref (215), .int (nI (j)), .int (0), .int (0)] [] _
  change q_W _ _ _ _ _ _ _ _ _ [.ref (215), .int (nI (j)), .int (0), .int (0)] [] _
  refine l_mo_attackers_4 smo hj ho_mo_cg ho_mo_lz ho_mo_ty ho_mo_he ho_mo_cn ho_mo_n ho_mo_mn (by omega) (by omega) (by omega) n 0 0 (by omega) (fun a1_0 x1 => ?_)
  change q_W _ _ _ _ _ _ _ _ 39 [q_u, q_u, .int (a1_0), q_u] [] _
  refine q_iload_n dX11_attackers_39 rfl ?_
  have hE : x_mo_attackers al n j = a1_0 := by simp only [x_mo_attackers, x1]
  rw [hE]
  exact q_ireturn dX11_attackers_40 rfl rfl (by omega) (by omega) ⟨rfl, rfl⟩
def x_mo_labelOf (ac : Int32) (rj : Int32) (j : Nat) : Int32 := (if ((ac >>> ((nI (j)) &&& 31)) &&& (1 : Int32)) = (1) then 97 else (if ((rj >>> ((nI (j)) &&& 31)) &&& (1 : Int32)) = (1) then 114 else 117))
set_option maxRecDepth 100000 in
set_option maxHeartbeats 8000000 in
theorem e_mo_labelOf {g : q_G} {h : q_H} {d : Nat} {th : Int32} {al : Nat → Int32} {cg : Nat} {sv : Bool} {rs : Int32} {ac : Int32} {rj : Int32} {ro : Nat → Int32} {ad : Nat → Int32} {bf : Nat → Int32} {ln : Nat → Int32} {lz : Nat} {ip : Nat → Int32} {ty : Nat} {he : Nat} {er : Int32} {ea : Int32} {fa : Int32} {cm : Nat → Int32} {cn : Nat} {n : Nat} {mn : Nat} (smo : z_Mo h 215 th al cg sv rs ac rj ro ad bf ln lz ip ty he er ea fa cm cn n mn)  (j : Nat) (hj : j < 8)  (hd : 0 ≤ d) : q_Spec g mX11_labelOf d 0 0 [.ref (215), .int (nI (j))] h (q_ret ((some (.int (x_mo_labelOf ac rj j)))) h) := by
  have hb_mo_cg := smo.bcg
  have hb_mo_lz := smo.blz
  have hb_mo_ty := smo.bty
  have hb_mo_he := smo.bhe
  have hb_mo_cn := smo.bcn
  have hb_mo_n := smo.bn
  have hb_mo_mn := smo.bmn
  have ho_mo_cg := smo.bcg
  have ho_mo_lz := smo.blz
  have ho_mo_ty := smo.bty
  have ho_mo_he := smo.bhe
  have ho_mo_cn := smo.bcn
  have ho_mo_n := smo.bn
  have ho_mo_mn := smo.bmn
  refine q_enter (by decide +kernel) rfl rfl (Nat.le_of_ble_eq_true rfl) (fun hz => ?_)
  change q_W _ _ _ _ _ _ _ _ _ [.ref (215), .int (nI (j))] [] _
  refine q_aload_n (by first | assumption | omega | decide | (rw [q_R0e]; omega)) dX11_labelOf_0 rfl ?_
  refine q_getf (k := 5) (v := .int (ac)) kC_X11 kL_X11_74 rfl (by decide) dX11_labelOf_1 smo.c0 rfl ?_
  refine q_iload_n dX11_labelOf_4 rfl ?_
  refine q_ishr dX11_labelOf_5 ?_
  refine q_iconst (v := 1) dX11_labelOf_6 rfl ?_
  refine q_iand dX11_labelOf_7 ?_
  refine q_iconst (v := 1) dX11_labelOf_8 rfl ?_
  refine q_icmp_ne 17 dX11_labelOf_9 (by decide) (fun b9 => ?_) (fun b9 => ?_)
  · refine q_aload_n (by first | assumption | omega | decide | (rw [q_R0e]; omega)) dX11_labelOf_17 rfl ?_
    refine q_getf (k := 6) (v := .int (rj)) kC_X11 kL_X11_77 rfl (by decide) dX11_labelOf_18 smo.c0 rfl ?_
    refine q_iload_n dX11_labelOf_21 rfl ?_
    refine q_ishr dX11_labelOf_22 ?_
    refine q_iconst (v := 1) dX11_labelOf_23 rfl ?_
    refine q_iand dX11_labelOf_24 ?_
    refine q_iconst (v := 1) dX11_labelOf_25 rfl ?_
    refine q_icmp_ne 34 dX11_labelOf_26 (by decide) (fun b26 => ?_) (fun b26 => ?_)
    · refine q_bipush (v := 117) dX11_labelOf_34 rfl ?_
      have hE : x_mo_labelOf ac rj j = 117 := by simp only [x_mo_labelOf, if_neg b9, if_neg b26]
      rw [hE]
      exact q_ireturn dX11_labelOf_36 rfl rfl (by omega) (by omega) ⟨rfl, rfl⟩
    · refine q_bipush (v := 114) dX11_labelOf_29 rfl ?_
      refine q_goto 36 dX11_labelOf_31 (by decide) ?_
      have hE : x_mo_labelOf ac rj j = 114 := by simp only [x_mo_labelOf, if_neg b9, if_pos b26]
      rw [hE]
      exact q_ireturn dX11_labelOf_36 rfl rfl (by omega) (by omega) ⟨rfl, rfl⟩
  · refine q_bipush (v := 97) dX11_labelOf_12 rfl ?_
    refine q_goto 36 dX11_labelOf_14 (by decide) ?_
    have hE : x_mo_labelOf ac rj j = 97 := by simp only [x_mo_labelOf, if_pos b9]
    rw [hE]
    exact q_ireturn dX11_labelOf_36 rfl rfl (by omega) (by omega) ⟨rfl, rfl⟩
def x_mo_attackedBy_4 (al : Nat → Int32) (n : Nat) (xs : Int32) : Nat → Nat → (Int32) → (Int32)
  | 0, _, c4_2 => c4_2
  | r + 1, k, c4_2 => (if ((x_mo_attackers al n k) &&& xs) = (0) then x_mo_attackedBy_4 al n xs r (k + 1) (c4_2 ||| (0 : Int32)) else x_mo_attackedBy_4 al n xs r (k + 1) (c4_2 ||| ((1 : Int32) <<< ((nI (k)) &&& 31))))
set_option maxRecDepth 100000 in
set_option maxHeartbeats 8000000 in
theorem l_mo_attackedBy_4 {g : q_G} {h : q_H} {d mc ms kc ks : Nat} {Q : q_O → q_H → Prop} {th : Int32} {al : Nat → Int32} {cg : Nat} {sv : Bool} {rs : Int32} {ac : Int32} {rj : Int32} {ro : Nat → Int32} {ad : Nat → Int32} {bf : Nat → Int32} {ln : Nat → Int32} {lz : Nat} {ip : Nat → Int32} {ty : Nat} {he : Nat} {er : Int32} {ea : Int32} {fa : Int32} {cm : Nat → Int32} {cn : Nat} {n : Nat} {mn : Nat} {xs : Int32} (smo : z_Mo h 215 th al cg sv rs ac rj ro ad bf ln lz ip ty he er ea fa cm cn n mn)  (ho_mo_cg : cg ≤ 8) (ho_mo_lz : lz ≤ 160) (ho_mo_ty : ty ≤ 60) (ho_mo_he : he ≤ 60) (ho_mo_cn : cn ≤ 61) (ho_mo_n : n ≤ 8) (ho_mo_mn : mn ≤ 12)  (hd : 4 ≤ d) (hkc : kc + 0 ≤ mc) (hks : ks + 0 ≤ ms) : ∀ (r k : Nat) (c4_2 : Int32) (hk_4 : k + r = n) (K : ∀ (r4_0 : Int32), x_mo_attackedBy_4 al n xs r k c4_2 = r4_0 → q_W g mX11_attackedBy d mc ms Q kc ks 40 [q_u, q_u, .int (r4_0), q_u] [] h), q_W g mX11_attackedBy d mc ms Q kc ks 4 [.ref (215), .int (xs), .int (c4_2), .int (nI (k))] [] h := by
  intro r
  induction r with
  | zero =>
    intro k c4_2  hk_4 K
    have hb_mo_cg := smo.bcg
    have hb_mo_lz := smo.blz
    have hb_mo_ty := smo.bty
    have hb_mo_he := smo.bhe
    have hb_mo_cn := smo.bcn
    have hb_mo_n := smo.bn
    have hb_mo_mn := smo.bmn
    refine q_iload_n dX11_attackedBy_4 rfl ?_
    refine q_aload_n (by first | assumption | omega | decide | (rw [q_R0e]; omega)) dX11_attackedBy_5 rfl ?_
    refine q_getf (k := 1) (v := .ref (216)) kC_X11 kL_X11_9 rfl (by decide) dX11_attackedBy_6 smo.c0 rfl ?_
    refine q_iconst (v := 0) dX11_attackedBy_9 rfl ?_
    refine q_ialdN (j := 0) (f := al) dX11_attackedBy_10 smo.c1 (by omega) (by decide) ?_
    rw [smo.en]
    change q_W _ _ _ _ _ _ _ _ _ _ [.int (nI (n)), .int (nI (k))] _
    refine q_icmp_ge 40 dX11_attackedBy_11 (by decide) (fun b11 => ?_) (fun b11 => ?_)
    · have b11 := (nI_leI (a := n) (b := k) (by omega) (by omega)).mp b11
      refine q_forget 0 ?_
      refine q_forget 1 ?_
      refine q_forget 3 ?_
      change q_W _ _ _ _ _ _ _ _ _ [q_u, q_u, .int (c4_2), q_u] [] _
      exact K c4_2 (by simp only [x_mo_attackedBy_4])
    · have b11 : ¬ (n ≤ k) := fun q => b11 ((nI_leI (a := n) (b := k) (by omega) (by omega)).mpr q)
      exact absurd b11 (by omega)
  | succ r ih =>
    intro k c4_2  hk_4 K
    have hb_mo_cg := smo.bcg
    have hb_mo_lz := smo.blz
    have hb_mo_ty := smo.bty
    have hb_mo_he := smo.bhe
    have hb_mo_cn := smo.bcn
    have hb_mo_n := smo.bn
    have hb_mo_mn := smo.bmn
    refine q_iload_n dX11_attackedBy_4 rfl ?_
    refine q_aload_n (by first | assumption | omega | decide | (rw [q_R0e]; omega)) dX11_attackedBy_5 rfl ?_
    refine q_getf (k := 1) (v := .ref (216)) kC_X11 kL_X11_9 rfl (by decide) dX11_attackedBy_6 smo.c0 rfl ?_
    refine q_iconst (v := 0) dX11_attackedBy_9 rfl ?_
    refine q_ialdN (j := 0) (f := al) dX11_attackedBy_10 smo.c1 (by omega) (by decide) ?_
    rw [smo.en]
    change q_W _ _ _ _ _ _ _ _ _ _ [.int (nI (n)), .int (nI (k))] _
    refine q_icmp_ge 40 dX11_attackedBy_11 (by decide) (fun b11 => ?_) (fun b11 => ?_)
    · have b11 := (nI_leI (a := n) (b := k) (by omega) (by omega)).mp b11
      exact absurd b11 (by omega)
    · have b11 : ¬ (n ≤ k) := fun q => b11 ((nI_leI (a := n) (b := k) (by omega) (by omega)).mpr q)
      refine q_iload_n dX11_attackedBy_14 rfl ?_
      refine q_aload_n (by first | assumption | omega | decide | (rw [q_R0e]; omega)) dX11_attackedBy_15 rfl ?_
      refine q_iload_n dX11_attackedBy_16 rfl ?_
      refine q_invV (mc' := 0) (ms' := 0) (d' := d - 1) (as := [.int (nI (k))]) dX11_attackedBy_17 kM_X11_attackers kL_X11_80 kI_X11_attackers kS_X11_attackers rfl (kC_X11.1) smo.c0 rfl rfl (Nat.le_of_ble_eq_true rfl) (by omega) (by decide) (by omega) (by omega) (e_mo_attackers (d := d - 1) smo k (by omega) (by omega)) (q_kR ?_) q_xR
      change q_W _ _ _ _ _ _ _ _ 20 [.ref (215), .int (xs), .int (c4_2), .int (nI (k))] [.int (x_mo_attackers al n k), .int (c4_2)] _
      refine q_iload_n dX11_attackedBy_20 rfl ?_
      refine q_iand dX11_attackedBy_21 ?_
      refine q_if_eq 31 dX11_attackedBy_22 (by decide) (fun b22 => ?_) (fun b22 => ?_)
      · refine q_iconst (v := 0) dX11_attackedBy_31 rfl ?_
        refine q_ior dX11_attackedBy_32 ?_
        refine q_istore_n dX11_attackedBy_33 (by decide) rfl ?_
        change q_W _ _ _ _ _ _ _ _ _ [.ref (215), .int (xs), .int (c4_2 ||| (0 : Int32)), .int (nI (k))] [] _
        refine q_iinc (x := nI (k)) (v := nI (k + 1)) dX11_attackedBy_34 rfl (nI_add _ 1) rfl ?_
        change q_W _ _ _ _ _ _ _ _ _ [.ref (215), .int (xs), .int (c4_2 ||| (0 : Int32)), .int (nI (k + 1))] [] _
        refine q_goto 4 dX11_attackedBy_37 (by decide) ?_
        change q_W _ _ _ _ _ _ _ _ _ [.ref (215), .int (xs), .int (c4_2 ||| (0 : Int32)), .int (nI (k + 1))] [] _
        exact ih (k + 1) (c4_2 ||| (0 : Int32)) (by omega) (fun r4_0 e9 => K r4_0 (by simp only [x_mo_attackedBy_4, if_pos b22]; exact e9))
      · refine q_iconst (v := 1) dX11_attackedBy_25 rfl ?_
        refine q_iload_n dX11_attackedBy_26 rfl ?_
        refine q_ishl dX11_attackedBy_27 ?_
        refine q_goto 32 dX11_attackedBy_28 (by decide) ?_
        refine q_ior dX11_attackedBy_32 ?_
        refine q_istore_n dX11_attackedBy_33 (by decide) rfl ?_
        change q_W _ _ _ _ _ _ _ _ _ [.ref (215), .int (xs), .int (c4_2 ||| ((1 : Int32) <<< ((nI (k)) &&& 31))), .int (nI (k))] [] _
        refine q_iinc (x := nI (k)) (v := nI (k + 1)) dX11_attackedBy_34 rfl (nI_add _ 1) rfl ?_
        change q_W _ _ _ _ _ _ _ _ _ [.ref (215), .int (xs), .int (c4_2 ||| ((1 : Int32) <<< ((nI (k)) &&& 31))), .int (nI (k + 1))] [] _
        refine q_goto 4 dX11_attackedBy_37 (by decide) ?_
        change q_W _ _ _ _ _ _ _ _ _ [.ref (215), .int (xs), .int (c4_2 ||| ((1 : Int32) <<< ((nI (k)) &&& 31))), .int (nI (k + 1))] [] _
        exact ih (k + 1) (c4_2 ||| ((1 : Int32) <<< ((nI (k)) &&& 31))) (by omega) (fun r4_0 e9 => K r4_0 (by simp only [x_mo_attackedBy_4, if_neg b22]; exact e9))
def x_mo_attackedBy (al : Nat → Int32) (n : Nat) (xs : Int32) : Int32 := (let a1_0 := x_mo_attackedBy_4 al n xs n 0 0; a1_0)
set_option maxRecDepth 100000 in
set_option maxHeartbeats 8000000 in
theorem e_mo_attackedBy {g : q_G} {h : q_H} {d : Nat} {th : Int32} {al : Nat → Int32} {cg : Nat} {sv : Bool} {rs : Int32} {ac : Int32} {rj : Int32} {ro : Nat → Int32} {ad : Nat → Int32} {bf : Nat → Int32} {ln : Nat → Int32} {lz : Nat} {ip : Nat → Int32} {ty : Nat} {he : Nat} {er : Int32} {ea : Int32} {fa : Int32} {cm : Nat → Int32} {cn : Nat} {n : Nat} {mn : Nat} (smo : z_Mo h 215 th al cg sv rs ac rj ro ad bf ln lz ip ty he er ea fa cm cn n mn)  (xs : Int32)   (hd : 4 ≤ d) : q_Spec g mX11_attackedBy d 0 0 [.ref (215), .int (xs)] h (q_ret ((some (.int (x_mo_attackedBy al n xs)))) h) := by
  have hb_mo_cg := smo.bcg
  have hb_mo_lz := smo.blz
  have hb_mo_ty := smo.bty
  have hb_mo_he := smo.bhe
  have hb_mo_cn := smo.bcn
  have hb_mo_n := smo.bn
  have hb_mo_mn := smo.bmn
  have ho_mo_cg := smo.bcg
  have ho_mo_lz := smo.blz
  have ho_mo_ty := smo.bty
  have ho_mo_he := smo.bhe
  have ho_mo_cn := smo.bcn
  have ho_mo_n := smo.bn
  have ho_mo_mn := smo.bmn
  refine q_enter (by decide +kernel) rfl rfl (Nat.le_of_ble_eq_true rfl) (fun hz => ?_)
  change q_W _ _ _ _ _ _ _ _ _ [.ref (215), .int (xs), q_u, q_u] [] _
  refine q_iconst (v := 0) dX11_attackedBy_0 rfl ?_
  refine q_istore_n dX11_attackedBy_1 (by decide) rfl ?_
  change q_W _ _ _ _ _ _ _ _ _ [.ref (215), .int (xs), .int (0), q_u] [] _
  refine q_iconst (v := 0) dX11_attackedBy_2 rfl ?_
  refine q_istore_n dX11_attackedBy_3 (by decide) rfl ?_
  change q_W _ _ _ _ _ _ _ _ _ [.ref (215), .int (xs), .int (0), .int (0)] [] _
  change q_W _ _ _ _ _ _ _ _ _ [.ref (215), .int (xs), .int (0), .int (0)] [] _
  refine l_mo_attackedBy_4 smo ho_mo_cg ho_mo_lz ho_mo_ty ho_mo_he ho_mo_cn ho_mo_n ho_mo_mn (by omega) (by omega) (by omega) n 0 0 (by omega) (fun a1_0 x1 => ?_)
  change q_W _ _ _ _ _ _ _ _ 40 [q_u, q_u, .int (a1_0), q_u] [] _
  refine q_iload_n dX11_attackedBy_40 rfl ?_
  have hE : x_mo_attackedBy al n xs = a1_0 := by simp only [x_mo_attackedBy, x1]
  rw [hE]
  exact q_ireturn dX11_attackedBy_41 rfl rfl (by omega) (by omega) ⟨rfl, rfl⟩
def x_mo_attackersOf_4 (al : Nat → Int32) (n : Nat) (xs : Int32) : Nat → Nat → (Int32) → (Int32)
  | 0, _, c4_2 => c4_2
  | r + 1, k, c4_2 => (if ((xs >>> ((nI (k)) &&& 31)) &&& (1 : Int32)) = (1) then x_mo_attackersOf_4 al n xs r (k + 1) (c4_2 ||| (x_mo_attackers al n k)) else x_mo_attackersOf_4 al n xs r (k + 1) (c4_2 ||| (0 : Int32)))
set_option maxRecDepth 100000 in
set_option maxHeartbeats 8000000 in
theorem l_mo_attackersOf_4 {g : q_G} {h : q_H} {d mc ms kc ks : Nat} {Q : q_O → q_H → Prop} {th : Int32} {al : Nat → Int32} {cg : Nat} {sv : Bool} {rs : Int32} {ac : Int32} {rj : Int32} {ro : Nat → Int32} {ad : Nat → Int32} {bf : Nat → Int32} {ln : Nat → Int32} {lz : Nat} {ip : Nat → Int32} {ty : Nat} {he : Nat} {er : Int32} {ea : Int32} {fa : Int32} {cm : Nat → Int32} {cn : Nat} {n : Nat} {mn : Nat} {xs : Int32} (smo : z_Mo h 215 th al cg sv rs ac rj ro ad bf ln lz ip ty he er ea fa cm cn n mn)  (ho_mo_cg : cg ≤ 8) (ho_mo_lz : lz ≤ 160) (ho_mo_ty : ty ≤ 60) (ho_mo_he : he ≤ 60) (ho_mo_cn : cn ≤ 61) (ho_mo_n : n ≤ 8) (ho_mo_mn : mn ≤ 12)  (hd : 4 ≤ d) (hkc : kc + 0 ≤ mc) (hks : ks + 0 ≤ ms) : ∀ (r k : Nat) (c4_2 : Int32) (hk_4 : k + r = n) (K : ∀ (r4_0 : Int32), x_mo_attackersOf_4 al n xs r k c4_2 = r4_0 → q_W g mX11_attackersOf d mc ms Q kc ks 41 [q_u, q_u, .int (r4_0), q_u] [] h), q_W g mX11_attackersOf d mc ms Q kc ks 4 [.ref (215), .int (xs), .int (c4_2), .int (nI (k))] [] h := by
  intro r
  induction r with
  | zero =>
    intro k c4_2  hk_4 K
    have hb_mo_cg := smo.bcg
    have hb_mo_lz := smo.blz
    have hb_mo_ty := smo.bty
    have hb_mo_he := smo.bhe
    have hb_mo_cn := smo.bcn
    have hb_mo_n := smo.bn
    have hb_mo_mn := smo.bmn
    refine q_iload_n dX11_attackersOf_4 rfl ?_
    refine q_aload_n (by first | assumption | omega | decide | (rw [q_R0e]; omega)) dX11_attackersOf_5 rfl ?_
    refine q_getf (k := 1) (v := .ref (216)) kC_X11 kL_X11_9 rfl (by decide) dX11_attackersOf_6 smo.c0 rfl ?_
    refine q_iconst (v := 0) dX11_attackersOf_9 rfl ?_
    refine q_ialdN (j := 0) (f := al) dX11_attackersOf_10 smo.c1 (by omega) (by decide) ?_
    rw [smo.en]
    change q_W _ _ _ _ _ _ _ _ _ _ [.int (nI (n)), .int (nI (k))] _
    refine q_icmp_ge 41 dX11_attackersOf_11 (by decide) (fun b11 => ?_) (fun b11 => ?_)
    · have b11 := (nI_leI (a := n) (b := k) (by omega) (by omega)).mp b11
      refine q_forget 0 ?_
      refine q_forget 1 ?_
      refine q_forget 3 ?_
      change q_W _ _ _ _ _ _ _ _ _ [q_u, q_u, .int (c4_2), q_u] [] _
      exact K c4_2 (by simp only [x_mo_attackersOf_4])
    · have b11 : ¬ (n ≤ k) := fun q => b11 ((nI_leI (a := n) (b := k) (by omega) (by omega)).mpr q)
      exact absurd b11 (by omega)
  | succ r ih =>
    intro k c4_2  hk_4 K
    have hb_mo_cg := smo.bcg
    have hb_mo_lz := smo.blz
    have hb_mo_ty := smo.bty
    have hb_mo_he := smo.bhe
    have hb_mo_cn := smo.bcn
    have hb_mo_n := smo.bn
    have hb_mo_mn := smo.bmn
    refine q_iload_n dX11_attackersOf_4 rfl ?_
    refine q_aload_n (by first | assumption | omega | decide | (rw [q_R0e]; omega)) dX11_attackersOf_5 rfl ?_
    refine q_getf (k := 1) (v := .ref (216)) kC_X11 kL_X11_9 rfl (by decide) dX11_attackersOf_6 smo.c0 rfl ?_
    refine q_iconst (v := 0) dX11_attackersOf_9 rfl ?_
    refine q_ialdN (j := 0) (f := al) dX11_attackersOf_10 smo.c1 (by omega) (by decide) ?_
    rw [smo.en]
    change q_W _ _ _ _ _ _ _ _ _ _ [.int (nI (n)), .int (nI (k))] _
    refine q_icmp_ge 41 dX11_attackersOf_11 (by decide) (fun b11 => ?_) (fun b11 => ?_)
    · have b11 := (nI_leI (a := n) (b := k) (by omega) (by omega)).mp b11
      exact absurd b11 (by omega)
    · have b11 : ¬ (n ≤ k) := fun q => b11 ((nI_leI (a := n) (b := k) (by omega) (by omega)).mpr q)
      refine q_iload_n dX11_attackersOf_14 rfl ?_
      refine q_iload_n dX11_attackersOf_15 rfl ?_
      refine q_iload_n dX11_attackersOf_16 rfl ?_
      refine q_ishr dX11_attackersOf_17 ?_
      refine q_iconst (v := 1) dX11_attackersOf_18 rfl ?_
      refine q_iand dX11_attackersOf_19 ?_
      refine q_iconst (v := 1) dX11_attackersOf_20 rfl ?_
      refine q_icmp_ne 32 dX11_attackersOf_21 (by decide) (fun b21 => ?_) (fun b21 => ?_)
      · refine q_iconst (v := 0) dX11_attackersOf_32 rfl ?_
        refine q_ior dX11_attackersOf_33 ?_
        refine q_istore_n dX11_attackersOf_34 (by decide) rfl ?_
        change q_W _ _ _ _ _ _ _ _ _ [.ref (215), .int (xs), .int (c4_2 ||| (0 : Int32)), .int (nI (k))] [] _
        refine q_iinc (x := nI (k)) (v := nI (k + 1)) dX11_attackersOf_35 rfl (nI_add _ 1) rfl ?_
        change q_W _ _ _ _ _ _ _ _ _ [.ref (215), .int (xs), .int (c4_2 ||| (0 : Int32)), .int (nI (k + 1))] [] _
        refine q_goto 4 dX11_attackersOf_38 (by decide) ?_
        change q_W _ _ _ _ _ _ _ _ _ [.ref (215), .int (xs), .int (c4_2 ||| (0 : Int32)), .int (nI (k + 1))] [] _
        exact ih (k + 1) (c4_2 ||| (0 : Int32)) (by omega) (fun r4_0 e9 => K r4_0 (by simp only [x_mo_attackersOf_4, if_neg b21]; exact e9))
      · refine q_aload_n (by first | assumption | omega | decide | (rw [q_R0e]; omega)) dX11_attackersOf_24 rfl ?_
        refine q_iload_n dX11_attackersOf_25 rfl ?_
        refine q_invV (mc' := 0) (ms' := 0) (d' := d - 1) (as := [.int (nI (k))]) dX11_attackersOf_26 kM_X11_attackers kL_X11_80 kI_X11_attackers kS_X11_attackers rfl (kC_X11.1) smo.c0 rfl rfl (Nat.le_of_ble_eq_true rfl) (by omega) (by decide) (by omega) (by omega) (e_mo_attackers (d := d - 1) smo k (by omega) (by omega)) (q_kR ?_) q_xR
        change q_W _ _ _ _ _ _ _ _ 29 [.ref (215), .int (xs), .int (c4_2), .int (nI (k))] [.int (x_mo_attackers al n k), .int (c4_2)] _
        refine q_goto 33 dX11_attackersOf_29 (by decide) ?_
        refine q_ior dX11_attackersOf_33 ?_
        refine q_istore_n dX11_attackersOf_34 (by decide) rfl ?_
        change q_W _ _ _ _ _ _ _ _ _ [.ref (215), .int (xs), .int (c4_2 ||| (x_mo_attackers al n k)), .int (nI (k))] [] _
        refine q_iinc (x := nI (k)) (v := nI (k + 1)) dX11_attackersOf_35 rfl (nI_add _ 1) rfl ?_
        change q_W _ _ _ _ _ _ _ _ _ [.ref (215), .int (xs), .int (c4_2 ||| (x_mo_attackers al n k)), .int (nI (k + 1))] [] _
        refine q_goto 4 dX11_attackersOf_38 (by decide) ?_
        change q_W _ _ _ _ _ _ _ _ _ [.ref (215), .int (xs), .int (c4_2 ||| (x_mo_attackers al n k)), .int (nI (k + 1))] [] _
        exact ih (k + 1) (c4_2 ||| (x_mo_attackers al n k)) (by omega) (fun r4_0 e9 => K r4_0 (by simp only [x_mo_attackersOf_4, if_pos b21]; exact e9))
def x_mo_attackersOf (al : Nat → Int32) (n : Nat) (xs : Int32) : Int32 := (let a1_0 := x_mo_attackersOf_4 al n xs n 0 0; a1_0)
set_option maxRecDepth 100000 in
set_option maxHeartbeats 8000000 in
theorem e_mo_attackersOf {g : q_G} {h : q_H} {d : Nat} {th : Int32} {al : Nat → Int32} {cg : Nat} {sv : Bool} {rs : Int32} {ac : Int32} {rj : Int32} {ro : Nat → Int32} {ad : Nat → Int32} {bf : Nat → Int32} {ln : Nat → Int32} {lz : Nat} {ip : Nat → Int32} {ty : Nat} {he : Nat} {er : Int32} {ea : Int32} {fa : Int32} {cm : Nat → Int32} {cn : Nat} {n : Nat} {mn : Nat} (smo : z_Mo h 215 th al cg sv rs ac rj ro ad bf ln lz ip ty he er ea fa cm cn n mn)  (xs : Int32)   (hd : 4 ≤ d) : q_Spec g mX11_attackersOf d 0 0 [.ref (215), .int (xs)] h (q_ret ((some (.int (x_mo_attackersOf al n xs)))) h) := by
  have hb_mo_cg := smo.bcg
  have hb_mo_lz := smo.blz
  have hb_mo_ty := smo.bty
  have hb_mo_he := smo.bhe
  have hb_mo_cn := smo.bcn
  have hb_mo_n := smo.bn
  have hb_mo_mn := smo.bmn
  have ho_mo_cg := smo.bcg
  have ho_mo_lz := smo.blz
  have ho_mo_ty := smo.bty
  have ho_mo_he := smo.bhe
  have ho_mo_cn := smo.bcn
  have ho_mo_n := smo.bn
  have ho_mo_mn := smo.bmn
  refine q_enter (by decide +kernel) rfl rfl (Nat.le_of_ble_eq_true rfl) (fun hz => ?_)
  change q_W _ _ _ _ _ _ _ _ _ [.ref (215), .int (xs), q_u, q_u] [] _
  refine q_iconst (v := 0) dX11_attackersOf_0 rfl ?_
  refine q_istore_n dX11_attackersOf_1 (by decide) rfl ?_
  change q_W _ _ _ _ _ _ _ _ _ [.ref (215), .int (xs), .int (0), q_u] [] _
  refine q_iconst (v := 0) dX11_attackersOf_2 rfl ?_
  refine q_istore_n dX11_attackersOf_3 (by decide) rfl ?_
  change q_W _ _ _ _ _ _ _ _ _ [.ref (215), .int (xs), .int (0), .int (0)] [] _
  change q_W _ _ _ _ _ _ _ _ _ [.ref (215), .int (xs), .int (0), .int (0)] [] _
  refine l_mo_attackersOf_4 smo ho_mo_cg ho_mo_lz ho_mo_ty ho_mo_he ho_mo_cn ho_mo_n ho_mo_mn (by omega) (by omega) (by omega) n 0 0 (by omega) (fun a1_0 x1 => ?_)
  change q_W _ _ _ _ _ _ _ _ 41 [q_u, q_u, .int (a1_0), q_u] [] _
  refine q_iload_n dX11_attackersOf_41 rfl ?_
  have hE : x_mo_attackersOf al n xs = a1_0 := by simp only [x_mo_attackersOf, x1]
  rw [hE]
  exact q_ireturn dX11_attackersOf_42 rfl rfl (by omega) (by omega) ⟨rfl, rfl⟩
def x_mo_isFree (al : Nat → Int32) (n : Nat) (xs : Int32) : Bool := (if ((x_mo_attackersOf al n xs) &&& xs) = (0) then true else false)
set_option maxRecDepth 100000 in
set_option maxHeartbeats 8000000 in
theorem e_mo_isFree {g : q_G} {h : q_H} {d : Nat} {th : Int32} {al : Nat → Int32} {cg : Nat} {sv : Bool} {rs : Int32} {ac : Int32} {rj : Int32} {ro : Nat → Int32} {ad : Nat → Int32} {bf : Nat → Int32} {ln : Nat → Int32} {lz : Nat} {ip : Nat → Int32} {ty : Nat} {he : Nat} {er : Int32} {ea : Int32} {fa : Int32} {cm : Nat → Int32} {cn : Nat} {n : Nat} {mn : Nat} (smo : z_Mo h 215 th al cg sv rs ac rj ro ad bf ln lz ip ty he er ea fa cm cn n mn)  (xs : Int32)   (hd : 5 ≤ d) : q_Spec g mX11_isFree d 0 0 [.ref (215), .int (xs)] h (q_ret ((some (.int (z_b (x_mo_isFree al n xs))))) h) := by
  have hb_mo_cg := smo.bcg
  have hb_mo_lz := smo.blz
  have hb_mo_ty := smo.bty
  have hb_mo_he := smo.bhe
  have hb_mo_cn := smo.bcn
  have hb_mo_n := smo.bn
  have hb_mo_mn := smo.bmn
  have ho_mo_cg := smo.bcg
  have ho_mo_lz := smo.blz
  have ho_mo_ty := smo.bty
  have ho_mo_he := smo.bhe
  have ho_mo_cn := smo.bcn
  have ho_mo_n := smo.bn
  have ho_mo_mn := smo.bmn
  refine q_enter (by decide +kernel) rfl rfl (Nat.le_of_ble_eq_true rfl) (fun hz => ?_)
  change q_W _ _ _ _ _ _ _ _ _ [.ref (215), .int (xs)] [] _
  refine q_aload_n (by first | assumption | omega | decide | (rw [q_R0e]; omega)) dX11_isFree_0 rfl ?_
  refine q_iload_n dX11_isFree_1 rfl ?_
  refine q_invV (mc' := 0) (ms' := 0) (d' := d - 1) (as := [.int (xs)]) dX11_isFree_2 kM_X11_attackersOf kL_X11_87 kI_X11_attackersOf kS_X11_attackersOf rfl (kC_X11.1) smo.c0 rfl rfl (Nat.le_of_ble_eq_true rfl) (by omega) (by decide) (by omega) (by omega) (e_mo_attackersOf (d := d - 1) smo xs (by omega)) (q_kR ?_) q_xR
  change q_W _ _ _ _ _ _ _ _ 5 [.ref (215), .int (xs)] [.int (x_mo_attackersOf al n xs)] _
  refine q_iload_n dX11_isFree_5 rfl ?_
  refine q_iand dX11_isFree_6 ?_
  refine q_if_ne 14 dX11_isFree_7 (by decide) (fun b7 => ?_) (fun b7 => ?_)
  · refine q_iconst (v := 0) dX11_isFree_14 rfl ?_
    have hE : x_mo_isFree al n xs = false := by simp only [x_mo_isFree, if_neg b7]
    rw [hE]
    exact q_ireturn dX11_isFree_15 rfl rfl (by omega) (by omega) ⟨rfl, rfl⟩
  · refine q_iconst (v := 1) dX11_isFree_10 rfl ?_
    refine q_goto 15 dX11_isFree_11 (by decide) ?_
    have hE : x_mo_isFree al n xs = true := by simp only [x_mo_isFree, if_pos b7]
    rw [hE]
    exact q_ireturn dX11_isFree_15 rfl rfl (by omega) (by omega) ⟨rfl, rfl⟩
def x_mo_isAdmissible (al : Nat → Int32) (n : Nat) (xs : Int32) : Bool := (if x_mo_isFree al n xs then (if ((x_mo_attackersOf al n xs) &&& ((x_mo_attackedBy al n xs) ^^^ (-1 : Int32))) = (0) then true else false) else false)
set_option maxRecDepth 100000 in
set_option maxHeartbeats 8000000 in
theorem e_mo_isAdmissible {g : q_G} {h : q_H} {d : Nat} {th : Int32} {al : Nat → Int32} {cg : Nat} {sv : Bool} {rs : Int32} {ac : Int32} {rj : Int32} {ro : Nat → Int32} {ad : Nat → Int32} {bf : Nat → Int32} {ln : Nat → Int32} {lz : Nat} {ip : Nat → Int32} {ty : Nat} {he : Nat} {er : Int32} {ea : Int32} {fa : Int32} {cm : Nat → Int32} {cn : Nat} {n : Nat} {mn : Nat} (smo : z_Mo h 215 th al cg sv rs ac rj ro ad bf ln lz ip ty he er ea fa cm cn n mn)  (xs : Int32)   (hd : 6 ≤ d) : q_Spec g mX11_isAdmissible d 0 0 [.ref (215), .int (xs)] h (q_ret ((some (.int (z_b (x_mo_isAdmissible al n xs))))) h) := by
  have hb_mo_cg := smo.bcg
  have hb_mo_lz := smo.blz
  have hb_mo_ty := smo.bty
  have hb_mo_he := smo.bhe
  have hb_mo_cn := smo.bcn
  have hb_mo_n := smo.bn
  have hb_mo_mn := smo.bmn
  have ho_mo_cg := smo.bcg
  have ho_mo_lz := smo.blz
  have ho_mo_ty := smo.bty
  have ho_mo_he := smo.bhe
  have ho_mo_cn := smo.bcn
  have ho_mo_n := smo.bn
  have ho_mo_mn := smo.bmn
  refine q_enter (by decide +kernel) rfl rfl (Nat.le_of_ble_eq_true rfl) (fun hz => ?_)
  change q_W _ _ _ _ _ _ _ _ _ [.ref (215), .int (xs)] [] _
  refine q_aload_n (by first | assumption | omega | decide | (rw [q_R0e]; omega)) dX11_isAdmissible_0 rfl ?_
  refine q_iload_n dX11_isAdmissible_1 rfl ?_
  refine q_invV (mc' := 0) (ms' := 0) (d' := d - 1) (as := [.int (xs)]) dX11_isAdmissible_2 kM_X11_isFree kL_X11_90 kI_X11_isFree kS_X11_isFree rfl (kC_X11.1) smo.c0 rfl rfl (Nat.le_of_ble_eq_true rfl) (by omega) (by decide) (by omega) (by omega) (e_mo_isFree (d := d - 1) smo xs (by omega)) (q_kR ?_) q_xR
  change q_W _ _ _ _ _ _ _ _ 5 [.ref (215), .int (xs)] [.int (z_b (x_mo_isFree al n xs))] _
  refine q_if_eq 28 dX11_isAdmissible_5 (by decide) (fun b5 => ?_) (fun b5 => ?_)
  · have b5 := z_b0n b5
    refine q_iconst (v := 0) dX11_isAdmissible_28 rfl ?_
    have hE : x_mo_isAdmissible al n xs = false := by simp only [x_mo_isAdmissible, if_neg b5]
    rw [hE]
    exact q_ireturn dX11_isAdmissible_29 rfl rfl (by omega) (by omega) ⟨rfl, rfl⟩
  · have b5 := z_b1 b5
    refine q_aload_n (by first | assumption | omega | decide | (rw [q_R0e]; omega)) dX11_isAdmissible_8 rfl ?_
    refine q_iload_n dX11_isAdmissible_9 rfl ?_
    refine q_invV (mc' := 0) (ms' := 0) (d' := d - 1) (as := [.int (xs)]) dX11_isAdmissible_10 kM_X11_attackersOf kL_X11_87 kI_X11_attackersOf kS_X11_attackersOf rfl (kC_X11.1) smo.c0 rfl rfl (Nat.le_of_ble_eq_true rfl) (by omega) (by decide) (by omega) (by omega) (e_mo_attackersOf (d := d - 1) smo xs (by omega)) (q_kR ?_) q_xR
    change q_W _ _ _ _ _ _ _ _ 13 [.ref (215), .int (xs)] [.int (x_mo_attackersOf al n xs)] _
    refine q_aload_n (by first | assumption | omega | decide | (rw [q_R0e]; omega)) dX11_isAdmissible_13 rfl ?_
    refine q_iload_n dX11_isAdmissible_14 rfl ?_
    refine q_invV (mc' := 0) (ms' := 0) (d' := d - 1) (as := [.int (xs)]) dX11_isAdmissible_15 kM_X11_attackedBy kL_X11_93 kI_X11_attackedBy kS_X11_attackedBy rfl (kC_X11.1) smo.c0 rfl rfl (Nat.le_of_ble_eq_true rfl) (by omega) (by decide) (by omega) (by omega) (e_mo_attackedBy (d := d - 1) smo xs (by omega)) (q_kR ?_) q_xR
    change q_W _ _ _ _ _ _ _ _ 18 [.ref (215), .int (xs)] [.int (x_mo_attackedBy al n xs), .int (x_mo_attackersOf al n xs)] _
    refine q_iconst (v := -1) dX11_isAdmissible_18 rfl ?_
    refine q_ixor dX11_isAdmissible_19 ?_
    refine q_iand dX11_isAdmissible_20 ?_
    refine q_if_ne 28 dX11_isAdmissible_21 (by decide) (fun b21 => ?_) (fun b21 => ?_)
    · refine q_iconst (v := 0) dX11_isAdmissible_28 rfl ?_
      have hE : x_mo_isAdmissible al n xs = false := by simp only [x_mo_isAdmissible, if_pos b5, if_neg b21]
      rw [hE]
      exact q_ireturn dX11_isAdmissible_29 rfl rfl (by omega) (by omega) ⟨rfl, rfl⟩
    · refine q_iconst (v := 1) dX11_isAdmissible_24 rfl ?_
      refine q_goto 29 dX11_isAdmissible_25 (by decide) ?_
      have hE : x_mo_isAdmissible al n xs = true := by simp only [x_mo_isAdmissible, if_pos b5, if_pos b21]
      rw [hE]
      exact q_ireturn dX11_isAdmissible_29 rfl rfl (by omega) (by omega) ⟨rfl, rfl⟩
def x_mo_sets (n : Nat) : Nat := 2 ^ n
set_option maxRecDepth 100000 in
set_option maxHeartbeats 8000000 in
theorem e_mo_sets {g : q_G} {h : q_H} {d : Nat} {th : Int32} {al : Nat → Int32} {cg : Nat} {sv : Bool} {rs : Int32} {ac : Int32} {rj : Int32} {ro : Nat → Int32} {ad : Nat → Int32} {bf : Nat → Int32} {ln : Nat → Int32} {lz : Nat} {ip : Nat → Int32} {ty : Nat} {he : Nat} {er : Int32} {ea : Int32} {fa : Int32} {cm : Nat → Int32} {cn : Nat} {n : Nat} {mn : Nat} (smo : z_Mo h 215 th al cg sv rs ac rj ro ad bf ln lz ip ty he er ea fa cm cn n mn)     (hd : 0 ≤ d) : q_Spec g mX11_sets d 0 0 [.ref (215)] h (q_ret ((some (.int (nI (x_mo_sets n))))) h) := by
  have hb_mo_cg := smo.bcg
  have hb_mo_lz := smo.blz
  have hb_mo_ty := smo.bty
  have hb_mo_he := smo.bhe
  have hb_mo_cn := smo.bcn
  have hb_mo_n := smo.bn
  have hb_mo_mn := smo.bmn
  have ho_mo_cg := smo.bcg
  have ho_mo_lz := smo.blz
  have ho_mo_ty := smo.bty
  have ho_mo_he := smo.bhe
  have ho_mo_cn := smo.bcn
  have ho_mo_n := smo.bn
  have ho_mo_mn := smo.bmn
  refine q_enter (by decide +kernel) rfl rfl (Nat.le_of_ble_eq_true rfl) (fun hz => ?_)
  change q_W _ _ _ _ _ _ _ _ _ [.ref (215)] [] _
  refine q_iconst (v := 1) dX11_sets_0 rfl ?_
  refine q_aload_n (by first | assumption | omega | decide | (rw [q_R0e]; omega)) dX11_sets_1 rfl ?_
  refine q_getf (k := 1) (v := .ref (216)) kC_X11 kL_X11_9 rfl (by decide) dX11_sets_2 smo.c0 rfl ?_
  refine q_iconst (v := 0) dX11_sets_5 rfl ?_
  refine q_ialdN (j := 0) (f := al) dX11_sets_6 smo.c1 (by omega) (by decide) ?_
  rw [smo.en]
  change q_W _ _ _ _ _ _ _ _ _ _ [.int (nI (n)), .int (1)] _
  refine q_shl1N (a := n) (by omega) dX11_sets_7 ?_
  have hE : x_mo_sets n = 2 ^ n := by simp only [x_mo_sets]
  rw [hE]
  exact q_ireturn dX11_sets_8 rfl rfl (by omega) (by omega) ⟨rfl, rfl⟩
def x_mo_findsAdmissible_2 (al : Nat → Int32) (n : Nat) : Nat → Nat → (Nat → Int32) → (Nat → Int32)
  | 0, _, ad_2 => ad_2
  | r + 1, k, ad_2 => x_mo_findsAdmissible_2 al n r (k + 1) (upd ad_2 k (z_b (x_mo_isAdmissible al n (nI (k)))))
set_option maxRecDepth 100000 in
set_option maxHeartbeats 8000000 in
theorem l_mo_findsAdmissible_2 {g : q_G} {h : q_H} {d mc ms kc ks : Nat} {Q : q_O → q_H → Prop} {th : Int32} {al : Nat → Int32} {cg : Nat} {sv : Bool} {rs : Int32} {ac : Int32} {rj : Int32} {ro : Nat → Int32} {bf : Nat → Int32} {ln : Nat → Int32} {lz : Nat} {ip : Nat → Int32} {ty : Nat} {he : Nat} {er : Int32} {ea : Int32} {fa : Int32} {cm : Nat → Int32} {cn : Nat} {n : Nat} {mn : Nat}   (ho_mo_cg : cg ≤ 8) (ho_mo_lz : lz ≤ 160) (ho_mo_ty : ty ≤ 60) (ho_mo_he : he ≤ 60) (ho_mo_cn : cn ≤ 61) (ho_mo_n : n ≤ 8) (ho_mo_mn : mn ≤ 12)  (hd : 7 ≤ d) (hkc : kc + 0 ≤ mc) (hks : ks + 0 ≤ ms) : ∀ (r k : Nat) (ad_2 : Nat → Int32) (hh : q_H) (smo_2 : z_Mo hh 215 th al cg sv rs ac rj ro ad_2 bf ln lz ip ty he er ea fa cm cn n mn) (pH : q_same h hh 215 8) (hk_2 : k + r = 2 ^ n) (K : ∀ (r2_0 : Nat → Int32), x_mo_findsAdmissible_2 al n r k ad_2 = r2_0 → ∀ h2, z_Mo h2 215 th al cg sv rs ac rj ro r2_0 bf ln lz ip ty he er ea fa cm cn n mn → q_same h h2 215 8 → q_W g mX11_findsAdmissible d mc ms Q kc ks 27 [q_u, q_u] [] h2), q_W g mX11_findsAdmissible d mc ms Q kc ks 2 [.ref (215), .int (nI (k))] [] hh := by
  intro r
  induction r with
  | zero =>
    intro k ad_2 hh smo_2 pH hk_2 K
    have hb_mo_cg := smo_2.bcg
    have hb_mo_lz := smo_2.blz
    have hb_mo_ty := smo_2.bty
    have hb_mo_he := smo_2.bhe
    have hb_mo_cn := smo_2.bcn
    have hb_mo_n := smo_2.bn
    have hb_mo_mn := smo_2.bmn
    refine q_iload_n dX11_findsAdmissible_2 rfl ?_
    refine q_aload_n (by first | assumption | omega | decide | (rw [q_R0e]; omega)) dX11_findsAdmissible_3 rfl ?_
    refine q_invV (mc' := 0) (ms' := 0) (d' := d - 1) (as := []) dX11_findsAdmissible_4 kM_X11_sets kL_X11_96 kI_X11_sets kS_X11_sets rfl (kC_X11.1) smo_2.c0 rfl rfl (Nat.le_of_ble_eq_true rfl) (by omega) (by decide) (by omega) (by omega) (e_mo_sets (d := d - 1) smo_2 (by omega)) (q_kR ?_) q_xR
    have g1_2 : 2 ^ n ≤ 2 ^ 8 := z_pow8 smo_2.bn
    have g1_2p : 1 ≤ 2 ^ n := Nat.one_le_two_pow
    change q_W _ _ _ _ _ _ _ _ 7 [.ref (215), .int (nI (k))] [.int (nI (2 ^ n)), .int (nI (k))] _
    refine q_icmp_ge 27 dX11_findsAdmissible_7 (by decide) (fun b7 => ?_) (fun b7 => ?_)
    · have b7 := (nI_leI (a := 2 ^ n) (b := k) (by omega) (by omega)).mp b7
      refine q_forget 0 ?_
      refine q_forget 1 ?_
      change q_W _ _ _ _ _ _ _ _ _ [q_u, q_u] [] _
      exact K ad_2 (by simp only [x_mo_findsAdmissible_2]) hh smo_2 pH
    · have b7 : ¬ (2 ^ n ≤ k) := fun q => b7 ((nI_leI (a := 2 ^ n) (b := k) (by omega) (by omega)).mpr q)
      exact absurd b7 (by omega)
  | succ r ih =>
    intro k ad_2 hh smo_2 pH hk_2 K
    have hb_mo_cg := smo_2.bcg
    have hb_mo_lz := smo_2.blz
    have hb_mo_ty := smo_2.bty
    have hb_mo_he := smo_2.bhe
    have hb_mo_cn := smo_2.bcn
    have hb_mo_n := smo_2.bn
    have hb_mo_mn := smo_2.bmn
    refine q_iload_n dX11_findsAdmissible_2 rfl ?_
    refine q_aload_n (by first | assumption | omega | decide | (rw [q_R0e]; omega)) dX11_findsAdmissible_3 rfl ?_
    refine q_invV (mc' := 0) (ms' := 0) (d' := d - 1) (as := []) dX11_findsAdmissible_4 kM_X11_sets kL_X11_96 kI_X11_sets kS_X11_sets rfl (kC_X11.1) smo_2.c0 rfl rfl (Nat.le_of_ble_eq_true rfl) (by omega) (by decide) (by omega) (by omega) (e_mo_sets (d := d - 1) smo_2 (by omega)) (q_kR ?_) q_xR
    have g2_2 : 2 ^ n ≤ 2 ^ 8 := z_pow8 smo_2.bn
    have g2_2p : 1 ≤ 2 ^ n := Nat.one_le_two_pow
    change q_W _ _ _ _ _ _ _ _ 7 [.ref (215), .int (nI (k))] [.int (nI (2 ^ n)), .int (nI (k))] _
    refine q_icmp_ge 27 dX11_findsAdmissible_7 (by decide) (fun b7 => ?_) (fun b7 => ?_)
    · have b7 := (nI_leI (a := 2 ^ n) (b := k) (by omega) (by omega)).mp b7
      exact absurd b7 (by omega)
    · have b7 : ¬ (2 ^ n ≤ k) := fun q => b7 ((nI_leI (a := 2 ^ n) (b := k) (by omega) (by omega)).mpr q)
      refine q_aload_n (by first | assumption | omega | decide | (rw [q_R0e]; omega)) dX11_findsAdmissible_10 rfl ?_
      refine q_getf (k := 8) (v := .ref (218)) kC_X11 kL_X11_16 rfl (by decide) dX11_findsAdmissible_11 smo_2.c0 rfl ?_
      refine q_iload_n dX11_findsAdmissible_14 rfl ?_
      refine q_aload_n (by first | assumption | omega | decide | (rw [q_R0e]; omega)) dX11_findsAdmissible_15 rfl ?_
      refine q_iload_n dX11_findsAdmissible_16 rfl ?_
      refine q_invV (mc' := 0) (ms' := 0) (d' := d - 1) (as := [.int (nI (k))]) dX11_findsAdmissible_17 kM_X11_isAdmissible kL_X11_100 kI_X11_isAdmissible kS_X11_isAdmissible rfl (kC_X11.1) smo_2.c0 rfl rfl (Nat.le_of_ble_eq_true rfl) (by omega) (by decide) (by omega) (by omega) (e_mo_isAdmissible (d := d - 1) smo_2 (nI (k)) (by omega)) (q_kR ?_) q_xR
      change q_W _ _ _ _ _ _ _ _ 20 [.ref (215), .int (nI (k))] [.int (z_b (x_mo_isAdmissible al n (nI (k)))), .int (nI (k)), .ref (218)] _
      refine q_zastN (j := k) (z_b01 _) dX11_findsAdmissible_20 smo_2.c3 (by omega) (by decide) ?_
      refine z_genW (B := fun H => z_Mo H 215 th al cg sv rs ac rj ro (upd ad_2 k (z_b (x_mo_isAdmissible al n (nI (k))))) bf ln lz ip ty he er ea fa cm cn n mn ∧ q_same h H 215 8) ⟨z_Mo.put3 smo_2, pH.trans (q_same.set (by omega) (by omega))⟩ (fun h3 hB => ?_)
      obtain ⟨smo3, p3⟩ := hB
      have hb_mo_cg := smo3.bcg
      have hb_mo_lz := smo3.blz
      have hb_mo_ty := smo3.bty
      have hb_mo_he := smo3.bhe
      have hb_mo_cn := smo3.bcn
      have hb_mo_n := smo3.bn
      have hb_mo_mn := smo3.bmn
      refine q_iinc (x := nI (k)) (v := nI (k + 1)) dX11_findsAdmissible_21 rfl (nI_add _ 1) rfl ?_
      change q_W _ _ _ _ _ _ _ _ _ [.ref (215), .int (nI (k + 1))] [] _
      refine q_goto 2 dX11_findsAdmissible_24 (by decide) ?_
      change q_W _ _ _ _ _ _ _ _ _ [.ref (215), .int (nI (k + 1))] [] _
      exact ih (k + 1) (upd ad_2 k (z_b (x_mo_isAdmissible al n (nI (k))))) h3 smo3 p3 (by omega) (fun r2_0 e9 => K r2_0 (by simp only [x_mo_findsAdmissible_2]; exact e9))
def x_mo_findsAdmissible (al : Nat → Int32) (ad : Nat → Int32) (n : Nat) : (Nat → Int32) := (let a4_0 := x_mo_findsAdmissible_2 al n (2 ^ n) 0 ad; (a4_0))
set_option maxRecDepth 100000 in
set_option maxHeartbeats 8000000 in
theorem e_mo_findsAdmissible {g : q_G} {h : q_H} {d : Nat} {th : Int32} {al : Nat → Int32} {cg : Nat} {sv : Bool} {rs : Int32} {ac : Int32} {rj : Int32} {ro : Nat → Int32} {ad : Nat → Int32} {bf : Nat → Int32} {ln : Nat → Int32} {lz : Nat} {ip : Nat → Int32} {ty : Nat} {he : Nat} {er : Int32} {ea : Int32} {fa : Int32} {cm : Nat → Int32} {cn : Nat} {n : Nat} {mn : Nat} (smo : z_Mo h 215 th al cg sv rs ac rj ro ad bf ln lz ip ty he er ea fa cm cn n mn)     (hd : 7 ≤ d) : q_Spec g mX11_findsAdmissible d 0 0 [.ref (215)] h (q_chg (.inl none) (fun h1 => z_Mo h1 215 th al cg sv rs ac rj ro (x_mo_findsAdmissible al ad n) bf ln lz ip ty he er ea fa cm cn n mn ∧ q_same h h1 215 8)) := by
  have hb_mo_cg := smo.bcg
  have hb_mo_lz := smo.blz
  have hb_mo_ty := smo.bty
  have hb_mo_he := smo.bhe
  have hb_mo_cn := smo.bcn
  have hb_mo_n := smo.bn
  have hb_mo_mn := smo.bmn
  have ho_mo_cg := smo.bcg
  have ho_mo_lz := smo.blz
  have ho_mo_ty := smo.bty
  have ho_mo_he := smo.bhe
  have ho_mo_cn := smo.bcn
  have ho_mo_n := smo.bn
  have ho_mo_mn := smo.bmn
  have p0 : q_same h h 215 8 := q_same.rfl'
  refine q_enter (by decide +kernel) rfl rfl (Nat.le_of_ble_eq_true rfl) (fun hz => ?_)
  change q_W _ _ _ _ _ _ _ _ _ [.ref (215), q_u] [] _
  refine q_iconst (v := 0) dX11_findsAdmissible_0 rfl ?_
  refine q_istore_n dX11_findsAdmissible_1 (by decide) rfl ?_
  change q_W _ _ _ _ _ _ _ _ _ [.ref (215), .int (0)] [] _
  change q_W _ _ _ _ _ _ _ _ _ [.ref (215), .int (0)] [] _
  refine l_mo_findsAdmissible_2 ho_mo_cg ho_mo_lz ho_mo_ty ho_mo_he ho_mo_cn ho_mo_n ho_mo_mn (by omega) (by omega) (by omega) (2 ^ n) 0 ad h smo p0 (by omega) (fun a4_0 x4 h5 smo5 p5 => ?_)
  have hb_mo_cg := smo5.bcg
  have hb_mo_lz := smo5.blz
  have hb_mo_ty := smo5.bty
  have hb_mo_he := smo5.bhe
  have hb_mo_cn := smo5.bcn
  have hb_mo_n := smo5.bn
  have hb_mo_mn := smo5.bmn
  change q_W _ _ _ _ _ _ _ _ 27 [q_u, q_u] [] _
  have hE : x_mo_findsAdmissible al ad n = (a4_0) := by simp only [x_mo_findsAdmissible, x4]
  rw [hE]
  exact q_return dX11_findsAdmissible_27 rfl (by omega) (by omega) ⟨rfl, smo5, p5⟩
/-- all bytes are 0 or 1 -/
def z_01 (f : Nat → Int32) : Prop := ∀ i, f i = 0 ∨ f i = 1
theorem z_01.upd {f : Nat → Int32} (h : z_01 f) (k : Nat) (b : Bool) : z_01 (upd f k (z_b b)) := fun i => by
  by_cases e : i = k
  · subst e
    rw [pk_us]
    exact z_b01 b
  · rw [pk_un e]
    exact h i
theorem z_fa01_2 {n : Nat} {al : Nat → Int32} : ∀ (r k : Nat) (ad : Nat → Int32), z_01 ad → z_01 (x_mo_findsAdmissible_2 al n r k ad) := by
  intro r
  induction r with
  | zero => intro k ad h; exact h
  | succ r ih =>
    intro k ad h
    simp only [x_mo_findsAdmissible_2]
    exact ih _ _ (h.upd _ _)
theorem z_fa01 {n : Nat} {al ad : Nat → Int32} (h : z_01 ad) : z_01 (x_mo_findsAdmissible al ad n) := z_fa01_2 _ _ _ h
theorem z_01nar {x : Int32} (h : x = 0 ∨ x = 1) : narrow .boolean (.int x) = .int x := by
  rcases h with rfl | rfl <;> rfl
def x_mo_isPreferred_9 (ad : Nat → Int32) (m : Nat) : Nat → Nat → (Int32) → (Int32)
  | 0, _, c9_2 => c9_2
  | r + 1, k, c9_2 => (if (c9_2) = (0) then c9_2 else (if k = m then x_mo_isPreferred_9 ad m r (k + 1) 1 else (if ((nI (k)) &&& (nI (m))) = (nI (m)) then (if (ad k) = (0) then x_mo_isPreferred_9 ad m r (k + 1) 1 else x_mo_isPreferred_9 ad m r (k + 1) 0) else x_mo_isPreferred_9 ad m r (k + 1) 1)))
set_option maxRecDepth 100000 in
set_option maxHeartbeats 8000000 in
theorem l_mo_isPreferred_9 {g : q_G} {h : q_H} {d mc ms kc ks : Nat} {Q : q_O → q_H → Prop} {th : Int32} {al : Nat → Int32} {cg : Nat} {sv : Bool} {rs : Int32} {ac : Int32} {rj : Int32} {ro : Nat → Int32} {ad : Nat → Int32} {bf : Nat → Int32} {ln : Nat → Int32} {lz : Nat} {ip : Nat → Int32} {ty : Nat} {he : Nat} {er : Int32} {ea : Int32} {fa : Int32} {cm : Nat → Int32} {cn : Nat} {n : Nat} {mn : Nat} {m : Nat} (smo : z_Mo h 215 th al cg sv rs ac rj ro ad bf ln lz ip ty he er ea fa cm cn n mn)  (hm : m < 2 ^ 8) (had : z_01 ad) (ho_mo_cg : cg ≤ 8) (ho_mo_lz : lz ≤ 160) (ho_mo_ty : ty ≤ 60) (ho_mo_he : he ≤ 60) (ho_mo_cn : cn ≤ 61) (ho_mo_n : n ≤ 8) (ho_mo_mn : mn ≤ 12)  (hd : 1 ≤ d) (hkc : kc + 0 ≤ mc) (hks : ks + 0 ≤ ms) : ∀ (r k : Nat) (c9_2 : Int32) (hk_9 : k + r = 2 ^ n) (K : ∀ (r9_0 : Int32), x_mo_isPreferred_9 ad m r k c9_2 = r9_0 → q_W g mX11_isPreferred d mc ms Q kc ks 54 [q_u, q_u, .int (r9_0), q_u] [] h), q_W g mX11_isPreferred d mc ms Q kc ks 9 [.ref (215), .int (nI (m)), .int (c9_2), .int (nI (k))] [] h := by
  intro r
  induction r with
  | zero =>
    intro k c9_2  hk_9 K
    have hb_mo_cg := smo.bcg
    have hb_mo_lz := smo.blz
    have hb_mo_ty := smo.bty
    have hb_mo_he := smo.bhe
    have hb_mo_cn := smo.bcn
    have hb_mo_n := smo.bn
    have hb_mo_mn := smo.bmn
    refine q_iload_n dX11_isPreferred_9 rfl ?_
    refine q_aload_n (by first | assumption | omega | decide | (rw [q_R0e]; omega)) dX11_isPreferred_10 rfl ?_
    refine q_invV (mc' := 0) (ms' := 0) (d' := d - 1) (as := []) dX11_isPreferred_11 kM_X11_sets kL_X11_96 kI_X11_sets kS_X11_sets rfl (kC_X11.1) smo.c0 rfl rfl (Nat.le_of_ble_eq_true rfl) (by omega) (by decide) (by omega) (by omega) (e_mo_sets (d := d - 1) smo (by omega)) (q_kR ?_) q_xR
    have g2_2 : 2 ^ n ≤ 2 ^ 8 := z_pow8 smo.bn
    have g2_2p : 1 ≤ 2 ^ n := Nat.one_le_two_pow
    change q_W _ _ _ _ _ _ _ _ 14 [.ref (215), .int (nI (m)), .int (c9_2), .int (nI (k))] [.int (nI (2 ^ n)), .int (nI (k))] _
    refine q_icmp_ge 54 dX11_isPreferred_14 (by decide) (fun b14 => ?_) (fun b14 => ?_)
    · have b14 := (nI_leI (a := 2 ^ n) (b := k) (by omega) (by omega)).mp b14
      refine q_forget 0 ?_
      refine q_forget 1 ?_
      refine q_forget 3 ?_
      change q_W _ _ _ _ _ _ _ _ _ [q_u, q_u, .int (c9_2), q_u] [] _
      exact K c9_2 (by simp only [x_mo_isPreferred_9])
    · have b14 : ¬ (2 ^ n ≤ k) := fun q => b14 ((nI_leI (a := 2 ^ n) (b := k) (by omega) (by omega)).mpr q)
      exact absurd b14 (by omega)
  | succ r ih =>
    intro k c9_2  hk_9 K
    have hb_mo_cg := smo.bcg
    have hb_mo_lz := smo.blz
    have hb_mo_ty := smo.bty
    have hb_mo_he := smo.bhe
    have hb_mo_cn := smo.bcn
    have hb_mo_n := smo.bn
    have hb_mo_mn := smo.bmn
    refine q_iload_n dX11_isPreferred_9 rfl ?_
    refine q_aload_n (by first | assumption | omega | decide | (rw [q_R0e]; omega)) dX11_isPreferred_10 rfl ?_
    refine q_invV (mc' := 0) (ms' := 0) (d' := d - 1) (as := []) dX11_isPreferred_11 kM_X11_sets kL_X11_96 kI_X11_sets kS_X11_sets rfl (kC_X11.1) smo.c0 rfl rfl (Nat.le_of_ble_eq_true rfl) (by omega) (by decide) (by omega) (by omega) (e_mo_sets (d := d - 1) smo (by omega)) (q_kR ?_) q_xR
    have g3_2 : 2 ^ n ≤ 2 ^ 8 := z_pow8 smo.bn
    have g3_2p : 1 ≤ 2 ^ n := Nat.one_le_two_pow
    change q_W _ _ _ _ _ _ _ _ 14 [.ref (215), .int (nI (m)), .int (c9_2), .int (nI (k))] [.int (nI (2 ^ n)), .int (nI (k))] _
    refine q_icmp_ge 54 dX11_isPreferred_14 (by decide) (fun b14 => ?_) (fun b14 => ?_)
    · have b14 := (nI_leI (a := 2 ^ n) (b := k) (by omega) (by omega)).mp b14
      exact absurd b14 (by omega)
    · have b14 : ¬ (2 ^ n ≤ k) := fun q => b14 ((nI_leI (a := 2 ^ n) (b := k) (by omega) (by omega)).mpr q)
      refine q_iload_n dX11_isPreferred_17 rfl ?_
      refine q_if_eq 54 dX11_isPreferred_18 (by decide) (fun b18 => ?_) (fun b18 => ?_)
      · refine q_forget 0 ?_
        refine q_forget 1 ?_
        refine q_forget 3 ?_
        change q_W _ _ _ _ _ _ _ _ _ [q_u, q_u, .int (c9_2), q_u] [] _
        exact K c9_2 (by simp only [x_mo_isPreferred_9, if_pos b18])
      · refine q_iload_n dX11_isPreferred_21 rfl ?_
        refine q_iload_n dX11_isPreferred_22 rfl ?_
        refine q_icmp_eq 42 dX11_isPreferred_23 (by decide) (fun b23 => ?_) (fun b23 => ?_)
        · have b23 := (nI_eq (a := k) (b := m) (by omega) (by omega)).mp b23
          refine q_iconst (v := 1) dX11_isPreferred_42 rfl ?_
          refine q_goto 47 dX11_isPreferred_43 (by decide) ?_
          refine q_istore_n dX11_isPreferred_47 (by decide) rfl ?_
          change q_W _ _ _ _ _ _ _ _ _ [.ref (215), .int (nI (m)), .int (1), .int (nI (k))] [] _
          refine q_iinc (x := nI (k)) (v := nI (k + 1)) dX11_isPreferred_48 rfl (nI_add _ 1) rfl ?_
          change q_W _ _ _ _ _ _ _ _ _ [.ref (215), .int (nI (m)), .int (1), .int (nI (k + 1))] [] _
          refine q_goto 9 dX11_isPreferred_51 (by decide) ?_
          change q_W _ _ _ _ _ _ _ _ _ [.ref (215), .int (nI (m)), .int (1), .int (nI (k + 1))] [] _
          exact ih (k + 1) 1 (by omega) (fun r9_0 e9 => K r9_0 (by simp only [x_mo_isPreferred_9, if_neg b18, if_pos b23]; exact e9))
        · have b23 : ¬ (k = m) := fun q => b23 ((nI_eq (a := k) (b := m) (by omega) (by omega)).mpr q)
          refine q_iload_n dX11_isPreferred_26 rfl ?_
          refine q_iload_n dX11_isPreferred_27 rfl ?_
          refine q_iand dX11_isPreferred_28 ?_
          refine q_iload_n dX11_isPreferred_29 rfl ?_
          refine q_icmp_ne 42 dX11_isPreferred_30 (by decide) (fun b30 => ?_) (fun b30 => ?_)
          · refine q_iconst (v := 1) dX11_isPreferred_42 rfl ?_
            refine q_goto 47 dX11_isPreferred_43 (by decide) ?_
            refine q_istore_n dX11_isPreferred_47 (by decide) rfl ?_
            change q_W _ _ _ _ _ _ _ _ _ [.ref (215), .int (nI (m)), .int (1), .int (nI (k))] [] _
            refine q_iinc (x := nI (k)) (v := nI (k + 1)) dX11_isPreferred_48 rfl (nI_add _ 1) rfl ?_
            change q_W _ _ _ _ _ _ _ _ _ [.ref (215), .int (nI (m)), .int (1), .int (nI (k + 1))] [] _
            refine q_goto 9 dX11_isPreferred_51 (by decide) ?_
            change q_W _ _ _ _ _ _ _ _ _ [.ref (215), .int (nI (m)), .int (1), .int (nI (k + 1))] [] _
            exact ih (k + 1) 1 (by omega) (fun r9_0 e9 => K r9_0 (by simp only [x_mo_isPreferred_9, if_neg b18, if_neg b23, if_neg b30]; exact e9))
          · refine q_aload_n (by first | assumption | omega | decide | (rw [q_R0e]; omega)) dX11_isPreferred_33 rfl ?_
            refine q_getf (k := 8) (v := .ref (218)) kC_X11 kL_X11_16 rfl (by decide) dX11_isPreferred_34 smo.c0 rfl ?_
            refine q_iload_n dX11_isPreferred_37 rfl ?_
            refine q_zaldN (j := k) (f := ad) dX11_isPreferred_38 smo.c3 (by omega) (by decide) ?_
            change q_W _ _ _ _ _ _ _ _ _ _ [.int (ad k)] _
            refine q_if_ne 46 dX11_isPreferred_39 (by decide) (fun b39 => ?_) (fun b39 => ?_)
            · refine q_iconst (v := 0) dX11_isPreferred_46 rfl ?_
              refine q_istore_n dX11_isPreferred_47 (by decide) rfl ?_
              change q_W _ _ _ _ _ _ _ _ _ [.ref (215), .int (nI (m)), .int (0), .int (nI (k))] [] _
              refine q_iinc (x := nI (k)) (v := nI (k + 1)) dX11_isPreferred_48 rfl (nI_add _ 1) rfl ?_
              change q_W _ _ _ _ _ _ _ _ _ [.ref (215), .int (nI (m)), .int (0), .int (nI (k + 1))] [] _
              refine q_goto 9 dX11_isPreferred_51 (by decide) ?_
              change q_W _ _ _ _ _ _ _ _ _ [.ref (215), .int (nI (m)), .int (0), .int (nI (k + 1))] [] _
              exact ih (k + 1) 0 (by omega) (fun r9_0 e9 => K r9_0 (by simp only [x_mo_isPreferred_9, if_neg b18, if_neg b23, if_pos b30, if_neg b39]; exact e9))
            · refine q_iconst (v := 1) dX11_isPreferred_42 rfl ?_
              refine q_goto 47 dX11_isPreferred_43 (by decide) ?_
              refine q_istore_n dX11_isPreferred_47 (by decide) rfl ?_
              change q_W _ _ _ _ _ _ _ _ _ [.ref (215), .int (nI (m)), .int (1), .int (nI (k))] [] _
              refine q_iinc (x := nI (k)) (v := nI (k + 1)) dX11_isPreferred_48 rfl (nI_add _ 1) rfl ?_
              change q_W _ _ _ _ _ _ _ _ _ [.ref (215), .int (nI (m)), .int (1), .int (nI (k + 1))] [] _
              refine q_goto 9 dX11_isPreferred_51 (by decide) ?_
              change q_W _ _ _ _ _ _ _ _ _ [.ref (215), .int (nI (m)), .int (1), .int (nI (k + 1))] [] _
              exact ih (k + 1) 1 (by omega) (fun r9_0 e9 => K r9_0 (by simp only [x_mo_isPreferred_9, if_neg b18, if_neg b23, if_pos b30, if_pos b39]; exact e9))
theorem z_isp01 {ad : Nat → Int32} {m : Nat} : ∀ (r k : Nat) (c : Int32), (c = 0 ∨ c = 1) → (x_mo_isPreferred_9 ad m r k c = 0 ∨ x_mo_isPreferred_9 ad m r k c = 1) := by
  intro r
  induction r with
  | zero => intro k c h; exact h
  | succ r ih =>
    intro k c h
    simp only [x_mo_isPreferred_9]
    repeat' split
    all_goals first | exact ih _ _ (Or.inl rfl) | exact ih _ _ (Or.inr rfl) | exact ih _ _ h | exact h
def x_mo_isPreferred (ad : Nat → Int32) (n : Nat) (m : Nat) : Int32 := (let a4_0 := x_mo_isPreferred_9 ad m (2 ^ n) 0 (ad m); a4_0)
set_option maxRecDepth 100000 in
set_option maxHeartbeats 8000000 in
theorem e_mo_isPreferred {g : q_G} {h : q_H} {d : Nat} {th : Int32} {al : Nat → Int32} {cg : Nat} {sv : Bool} {rs : Int32} {ac : Int32} {rj : Int32} {ro : Nat → Int32} {ad : Nat → Int32} {bf : Nat → Int32} {ln : Nat → Int32} {lz : Nat} {ip : Nat → Int32} {ty : Nat} {he : Nat} {er : Int32} {ea : Int32} {fa : Int32} {cm : Nat → Int32} {cn : Nat} {n : Nat} {mn : Nat} (smo : z_Mo h 215 th al cg sv rs ac rj ro ad bf ln lz ip ty he er ea fa cm cn n mn)  (m : Nat) (hm : m < 2 ^ 8) (had : z_01 ad)  (hd : 1 ≤ d) : q_Spec g mX11_isPreferred d 0 0 [.ref (215), .int (nI (m))] h (q_ret ((some (.int (x_mo_isPreferred ad n m)))) h) := by
  have hb_mo_cg := smo.bcg
  have hb_mo_lz := smo.blz
  have hb_mo_ty := smo.bty
  have hb_mo_he := smo.bhe
  have hb_mo_cn := smo.bcn
  have hb_mo_n := smo.bn
  have hb_mo_mn := smo.bmn
  have ho_mo_cg := smo.bcg
  have ho_mo_lz := smo.blz
  have ho_mo_ty := smo.bty
  have ho_mo_he := smo.bhe
  have ho_mo_cn := smo.bcn
  have ho_mo_n := smo.bn
  have ho_mo_mn := smo.bmn
  refine q_enter (by decide +kernel) rfl rfl (Nat.le_of_ble_eq_true rfl) (fun hz => ?_)
  change q_W _ _ _ _ _ _ _ _ _ [.ref (215), .int (nI (m)), q_u, q_u] [] _
  refine q_aload_n (by first | assumption | omega | decide | (rw [q_R0e]; omega)) dX11_isPreferred_0 rfl ?_
  refine q_getf (k := 8) (v := .ref (218)) kC_X11 kL_X11_16 rfl (by decide) dX11_isPreferred_1 smo.c0 rfl ?_
  refine q_iload_n dX11_isPreferred_4 rfl ?_
  refine q_zaldN (j := m) (f := ad) dX11_isPreferred_5 smo.c3 (by omega) (by decide) ?_
  change q_W _ _ _ _ _ _ _ _ _ _ [.int (ad m)] _
  refine q_istore_n dX11_isPreferred_6 (by decide) rfl ?_
  change q_W _ _ _ _ _ _ _ _ _ [.ref (215), .int (nI (m)), .int (ad m), q_u] [] _
  refine q_iconst (v := 0) dX11_isPreferred_7 rfl ?_
  refine q_istore_n dX11_isPreferred_8 (by decide) rfl ?_
  change q_W _ _ _ _ _ _ _ _ _ [.ref (215), .int (nI (m)), .int (ad m), .int (0)] [] _
  change q_W _ _ _ _ _ _ _ _ _ [.ref (215), .int (nI (m)), .int (ad m), .int (0)] [] _
  refine l_mo_isPreferred_9 smo hm had ho_mo_cg ho_mo_lz ho_mo_ty ho_mo_he ho_mo_cn ho_mo_n ho_mo_mn (by omega) (by omega) (by omega) (2 ^ n) 0 (ad m) (by omega) (fun a4_0 x4 => ?_)
  change q_W _ _ _ _ _ _ _ _ 54 [q_u, q_u, .int (a4_0), q_u] [] _
  have h01 : a4_0 = 0 ∨ a4_0 = 1 := by rw [← x4]; exact z_isp01 _ _ _ (had _)
  refine q_iload_n dX11_isPreferred_54 rfl ?_
  have hE : x_mo_isPreferred ad n m = a4_0 := by simp only [x_mo_isPreferred, x4]
  rw [hE]
  exact q_ireturn dX11_isPreferred_55 rfl (z_01nar h01) (by omega) (by omega) ⟨rfl, rfl⟩
def x_mo_preferredWith_8 (n : Nat) (xs : Int32) (y1_ad : Nat → Int32) : Nat → Nat → (Int32) → (Int32)
  | 0, _, c8_2 => c8_2
  | r + 1, k, c8_2 => (if ((nI (k)) &&& xs) = (xs) then (if (x_mo_isPreferred y1_ad n k) = (0) then x_mo_preferredWith_8 n xs y1_ad r (k + 1) (c8_2 + (0 : Int32)) else x_mo_preferredWith_8 n xs y1_ad r (k + 1) (c8_2 + (1 : Int32))) else x_mo_preferredWith_8 n xs y1_ad r (k + 1) (c8_2 + (0 : Int32)))
set_option maxRecDepth 100000 in
set_option maxHeartbeats 8000000 in
theorem l_mo_preferredWith_8 {g : q_G} {h h2 : q_H} {d mc ms kc ks : Nat} {Q : q_O → q_H → Prop} {th : Int32} {al : Nat → Int32} {cg : Nat} {sv : Bool} {rs : Int32} {ac : Int32} {rj : Int32} {ro : Nat → Int32} {bf : Nat → Int32} {ln : Nat → Int32} {lz : Nat} {ip : Nat → Int32} {ty : Nat} {he : Nat} {er : Int32} {ea : Int32} {fa : Int32} {cm : Nat → Int32} {cn : Nat} {n : Nat} {mn : Nat} {xs : Int32} {y1_ad : Nat → Int32} (smo2 : z_Mo h2 215 th al cg sv rs ac rj ro y1_ad bf ln lz ip ty he er ea fa cm cn n mn) (p2 : q_same h h2 215 8)  (ho_mo_cg : cg ≤ 8) (ho_mo_lz : lz ≤ 160) (ho_mo_ty : ty ≤ 60) (ho_mo_he : he ≤ 60) (ho_mo_cn : cn ≤ 61) (ho_mo_n : n ≤ 8) (ho_mo_mn : mn ≤ 12) (had9 : z_01 y1_ad)  (hd : 2 ≤ d) (hkc : kc + 0 ≤ mc) (hks : ks + 0 ≤ ms) : ∀ (r k : Nat) (c8_2 : Int32) (hk_8 : k + r = 2 ^ n) (K : ∀ (r8_0 : Int32), x_mo_preferredWith_8 n xs y1_ad r k c8_2 = r8_0 → q_W g mX11_preferredWith d mc ms Q kc ks 45 [q_u, q_u, .int (r8_0), q_u] [] h2), q_W g mX11_preferredWith d mc ms Q kc ks 8 [.ref (215), .int (xs), .int (c8_2), .int (nI (k))] [] h2 := by
  intro r
  induction r with
  | zero =>
    intro k c8_2  hk_8 K
    have hb_mo_cg := smo2.bcg
    have hb_mo_lz := smo2.blz
    have hb_mo_ty := smo2.bty
    have hb_mo_he := smo2.bhe
    have hb_mo_cn := smo2.bcn
    have hb_mo_n := smo2.bn
    have hb_mo_mn := smo2.bmn
    refine q_iload_n dX11_preferredWith_8 rfl ?_
    refine q_aload_n (by first | assumption | omega | decide | (rw [q_R0e]; omega)) dX11_preferredWith_9 rfl ?_
    refine q_invV (mc' := 0) (ms' := 0) (d' := d - 1) (as := []) dX11_preferredWith_10 kM_X11_sets kL_X11_96 kI_X11_sets kS_X11_sets rfl (kC_X11.1) smo2.c0 rfl rfl (Nat.le_of_ble_eq_true rfl) (by omega) (by decide) (by omega) (by omega) (e_mo_sets (d := d - 1) smo2 (by omega)) (q_kR ?_) q_xR
    have g4_2 : 2 ^ n ≤ 2 ^ 8 := z_pow8 smo2.bn
    have g4_2p : 1 ≤ 2 ^ n := Nat.one_le_two_pow
    change q_W _ _ _ _ _ _ _ _ 13 [.ref (215), .int (xs), .int (c8_2), .int (nI (k))] [.int (nI (2 ^ n)), .int (nI (k))] _
    refine q_icmp_ge 45 dX11_preferredWith_13 (by decide) (fun b13 => ?_) (fun b13 => ?_)
    · have b13 := (nI_leI (a := 2 ^ n) (b := k) (by omega) (by omega)).mp b13
      refine q_forget 0 ?_
      refine q_forget 1 ?_
      refine q_forget 3 ?_
      change q_W _ _ _ _ _ _ _ _ _ [q_u, q_u, .int (c8_2), q_u] [] _
      exact K c8_2 (by simp only [x_mo_preferredWith_8])
    · have b13 : ¬ (2 ^ n ≤ k) := fun q => b13 ((nI_leI (a := 2 ^ n) (b := k) (by omega) (by omega)).mpr q)
      exact absurd b13 (by omega)
  | succ r ih =>
    intro k c8_2  hk_8 K
    have hb_mo_cg := smo2.bcg
    have hb_mo_lz := smo2.blz
    have hb_mo_ty := smo2.bty
    have hb_mo_he := smo2.bhe
    have hb_mo_cn := smo2.bcn
    have hb_mo_n := smo2.bn
    have hb_mo_mn := smo2.bmn
    refine q_iload_n dX11_preferredWith_8 rfl ?_
    refine q_aload_n (by first | assumption | omega | decide | (rw [q_R0e]; omega)) dX11_preferredWith_9 rfl ?_
    refine q_invV (mc' := 0) (ms' := 0) (d' := d - 1) (as := []) dX11_preferredWith_10 kM_X11_sets kL_X11_96 kI_X11_sets kS_X11_sets rfl (kC_X11.1) smo2.c0 rfl rfl (Nat.le_of_ble_eq_true rfl) (by omega) (by decide) (by omega) (by omega) (e_mo_sets (d := d - 1) smo2 (by omega)) (q_kR ?_) q_xR
    have g5_2 : 2 ^ n ≤ 2 ^ 8 := z_pow8 smo2.bn
    have g5_2p : 1 ≤ 2 ^ n := Nat.one_le_two_pow
    change q_W _ _ _ _ _ _ _ _ 13 [.ref (215), .int (xs), .int (c8_2), .int (nI (k))] [.int (nI (2 ^ n)), .int (nI (k))] _
    refine q_icmp_ge 45 dX11_preferredWith_13 (by decide) (fun b13 => ?_) (fun b13 => ?_)
    · have b13 := (nI_leI (a := 2 ^ n) (b := k) (by omega) (by omega)).mp b13
      exact absurd b13 (by omega)
    · have b13 : ¬ (2 ^ n ≤ k) := fun q => b13 ((nI_leI (a := 2 ^ n) (b := k) (by omega) (by omega)).mpr q)
      refine q_iload_n dX11_preferredWith_16 rfl ?_
      refine q_iload_n dX11_preferredWith_17 rfl ?_
      refine q_iload_n dX11_preferredWith_18 rfl ?_
      refine q_iand dX11_preferredWith_19 ?_
      refine q_iload_n dX11_preferredWith_20 rfl ?_
      refine q_icmp_ne 36 dX11_preferredWith_21 (by decide) (fun b21 => ?_) (fun b21 => ?_)
      · refine q_iconst (v := 0) dX11_preferredWith_36 rfl ?_
        refine q_iadd dX11_preferredWith_37 ?_
        refine q_istore_n dX11_preferredWith_38 (by decide) rfl ?_
        change q_W _ _ _ _ _ _ _ _ _ [.ref (215), .int (xs), .int (c8_2 + (0 : Int32)), .int (nI (k))] [] _
        refine q_iinc (x := nI (k)) (v := nI (k + 1)) dX11_preferredWith_39 rfl (nI_add _ 1) rfl ?_
        change q_W _ _ _ _ _ _ _ _ _ [.ref (215), .int (xs), .int (c8_2 + (0 : Int32)), .int (nI (k + 1))] [] _
        refine q_goto 8 dX11_preferredWith_42 (by decide) ?_
        change q_W _ _ _ _ _ _ _ _ _ [.ref (215), .int (xs), .int (c8_2 + (0 : Int32)), .int (nI (k + 1))] [] _
        exact ih (k + 1) (c8_2 + (0 : Int32)) (by omega) (fun r8_0 e9 => K r8_0 (by simp only [x_mo_preferredWith_8, if_neg b21]; exact e9))
      · refine q_aload_n (by first | assumption | omega | decide | (rw [q_R0e]; omega)) dX11_preferredWith_24 rfl ?_
        refine q_iload_n dX11_preferredWith_25 rfl ?_
        refine q_invV (mc' := 0) (ms' := 0) (d' := d - 1) (as := [.int (nI (k))]) dX11_preferredWith_26 kM_X11_isPreferred kL_X11_106 kI_X11_isPreferred kS_X11_isPreferred rfl (kC_X11.1) smo2.c0 rfl rfl (Nat.le_of_ble_eq_true rfl) (by omega) (by decide) (by omega) (by omega) (e_mo_isPreferred (d := d - 1) smo2 k (by omega) had9 (by omega)) (q_kR ?_) q_xR
        change q_W _ _ _ _ _ _ _ _ 29 [.ref (215), .int (xs), .int (c8_2), .int (nI (k))] [.int (x_mo_isPreferred y1_ad n k), .int (c8_2)] _
        refine q_if_eq 36 dX11_preferredWith_29 (by decide) (fun b29 => ?_) (fun b29 => ?_)
        · refine q_iconst (v := 0) dX11_preferredWith_36 rfl ?_
          refine q_iadd dX11_preferredWith_37 ?_
          refine q_istore_n dX11_preferredWith_38 (by decide) rfl ?_
          change q_W _ _ _ _ _ _ _ _ _ [.ref (215), .int (xs), .int (c8_2 + (0 : Int32)), .int (nI (k))] [] _
          refine q_iinc (x := nI (k)) (v := nI (k + 1)) dX11_preferredWith_39 rfl (nI_add _ 1) rfl ?_
          change q_W _ _ _ _ _ _ _ _ _ [.ref (215), .int (xs), .int (c8_2 + (0 : Int32)), .int (nI (k + 1))] [] _
          refine q_goto 8 dX11_preferredWith_42 (by decide) ?_
          change q_W _ _ _ _ _ _ _ _ _ [.ref (215), .int (xs), .int (c8_2 + (0 : Int32)), .int (nI (k + 1))] [] _
          exact ih (k + 1) (c8_2 + (0 : Int32)) (by omega) (fun r8_0 e9 => K r8_0 (by simp only [x_mo_preferredWith_8, if_pos b21, if_pos b29]; exact e9))
        · refine q_iconst (v := 1) dX11_preferredWith_32 rfl ?_
          refine q_goto 37 dX11_preferredWith_33 (by decide) ?_
          refine q_iadd dX11_preferredWith_37 ?_
          refine q_istore_n dX11_preferredWith_38 (by decide) rfl ?_
          change q_W _ _ _ _ _ _ _ _ _ [.ref (215), .int (xs), .int (c8_2 + (1 : Int32)), .int (nI (k))] [] _
          refine q_iinc (x := nI (k)) (v := nI (k + 1)) dX11_preferredWith_39 rfl (nI_add _ 1) rfl ?_
          change q_W _ _ _ _ _ _ _ _ _ [.ref (215), .int (xs), .int (c8_2 + (1 : Int32)), .int (nI (k + 1))] [] _
          refine q_goto 8 dX11_preferredWith_42 (by decide) ?_
          change q_W _ _ _ _ _ _ _ _ _ [.ref (215), .int (xs), .int (c8_2 + (1 : Int32)), .int (nI (k + 1))] [] _
          exact ih (k + 1) (c8_2 + (1 : Int32)) (by omega) (fun r8_0 e9 => K r8_0 (by simp only [x_mo_preferredWith_8, if_pos b21, if_neg b29]; exact e9))
def x_mo_preferredWith (al : Nat → Int32) (ad : Nat → Int32) (n : Nat) (xs : Int32) : (Int32) × (Nat → Int32) := (let y1_ad := x_mo_findsAdmissible al ad n; (let a6_0 := x_mo_preferredWith_8 n xs y1_ad (2 ^ n) 0 0; (a6_0, y1_ad)))
set_option maxRecDepth 100000 in
set_option maxHeartbeats 8000000 in
theorem e_mo_preferredWith {g : q_G} {h : q_H} {d : Nat} {th : Int32} {al : Nat → Int32} {cg : Nat} {sv : Bool} {rs : Int32} {ac : Int32} {rj : Int32} {ro : Nat → Int32} {ad : Nat → Int32} {bf : Nat → Int32} {ln : Nat → Int32} {lz : Nat} {ip : Nat → Int32} {ty : Nat} {he : Nat} {er : Int32} {ea : Int32} {fa : Int32} {cm : Nat → Int32} {cn : Nat} {n : Nat} {mn : Nat} (smo : z_Mo h 215 th al cg sv rs ac rj ro ad bf ln lz ip ty he er ea fa cm cn n mn)  (xs : Int32) (had : z_01 ad)  (hd : 8 ≤ d) : q_Spec g mX11_preferredWith d 0 0 [.ref (215), .int (xs)] h (q_chg (.inl (some (.int (x_mo_preferredWith al ad n xs).1))) (fun h1 => z_Mo h1 215 th al cg sv rs ac rj ro ((x_mo_preferredWith al ad n xs).2) bf ln lz ip ty he er ea fa cm cn n mn ∧ q_same h h1 215 8)) := by
  have hb_mo_cg := smo.bcg
  have hb_mo_lz := smo.blz
  have hb_mo_ty := smo.bty
  have hb_mo_he := smo.bhe
  have hb_mo_cn := smo.bcn
  have hb_mo_n := smo.bn
  have hb_mo_mn := smo.bmn
  have ho_mo_cg := smo.bcg
  have ho_mo_lz := smo.blz
  have ho_mo_ty := smo.bty
  have ho_mo_he := smo.bhe
  have ho_mo_cn := smo.bcn
  have ho_mo_n := smo.bn
  have ho_mo_mn := smo.bmn
  have p0 : q_same h h 215 8 := q_same.rfl'
  refine q_enter (by decide +kernel) rfl rfl (Nat.le_of_ble_eq_true rfl) (fun hz => ?_)
  change q_W _ _ _ _ _ _ _ _ _ [.ref (215), .int (xs), q_u, q_u] [] _
  refine q_aload_n (by first | assumption | omega | decide | (rw [q_R0e]; omega)) dX11_preferredWith_0 rfl ?_
  obtain ⟨y1_ad, x1⟩ : ∃ z, x_mo_findsAdmissible al ad n = z := ⟨_, rfl⟩
  have e9 := e_mo_findsAdmissible (g := g) (h := h) (d := d - 1) smo (by omega)
  rw [x1] at e9
  refine q_invV (mc' := 0) (ms' := 0) (d' := d - 1) (as := []) dX11_preferredWith_1 kM_X11_findsAdmissible kL_X11_103 kI_X11_findsAdmissible kS_X11_findsAdmissible rfl (kC_X11.1) smo.c0 rfl rfl (Nat.le_of_ble_eq_true rfl) (by omega) (by decide) (by omega) (by omega) (e9) (q_kC (fun h2 hB => ?_)) q_xC
  obtain ⟨t2_0, pp2⟩ := hB
  have smo2 := t2_0
  have p2 := p0.trans (pp2.wide (by omega) (by omega))
  have hb_mo_cg := smo2.bcg
  have hb_mo_lz := smo2.blz
  have hb_mo_ty := smo2.bty
  have hb_mo_he := smo2.bhe
  have hb_mo_cn := smo2.bcn
  have hb_mo_n := smo2.bn
  have hb_mo_mn := smo2.bmn
  have had9 : z_01 y1_ad := by rw [← x1]; exact z_fa01 had
  change q_W _ _ _ _ _ _ _ _ 4 [.ref (215), .int (xs), q_u, q_u] [] _
  refine q_iconst (v := 0) dX11_preferredWith_4 rfl ?_
  refine q_istore_n dX11_preferredWith_5 (by decide) rfl ?_
  change q_W _ _ _ _ _ _ _ _ _ [.ref (215), .int (xs), .int (0), q_u] [] _
  refine q_iconst (v := 0) dX11_preferredWith_6 rfl ?_
  refine q_istore_n dX11_preferredWith_7 (by decide) rfl ?_
  change q_W _ _ _ _ _ _ _ _ _ [.ref (215), .int (xs), .int (0), .int (0)] [] _
  change q_W _ _ _ _ _ _ _ _ _ [.ref (215), .int (xs), .int (0), .int (0)] [] _
  refine l_mo_preferredWith_8 smo2 p2 ho_mo_cg ho_mo_lz ho_mo_ty ho_mo_he ho_mo_cn ho_mo_n ho_mo_mn had9 (by omega) (by omega) (by omega) (2 ^ n) 0 0 (by omega) (fun a6_0 x6 => ?_)
  change q_W _ _ _ _ _ _ _ _ 45 [q_u, q_u, .int (a6_0), q_u] [] _
  refine q_iload_n dX11_preferredWith_45 rfl ?_
  have hE : x_mo_preferredWith al ad n xs = (a6_0, y1_ad) := by simp only [x_mo_preferredWith, x1, x6]
  rw [hE]
  exact q_ireturn dX11_preferredWith_46 rfl rfl (by omega) (by omega) ⟨rfl, smo2, p2⟩
def x_mo_told (al : Nat → Int32) (w : Nat) : (Int32) × (Int32) := (al w, 0)
set_option maxRecDepth 100000 in
set_option maxHeartbeats 8000000 in
theorem e_mo_told {g : q_G} {h : q_H} {d : Nat} {th : Int32} {al : Nat → Int32} {cg : Nat} {sv : Bool} {rs : Int32} {ac : Int32} {rj : Int32} {ro : Nat → Int32} {ad : Nat → Int32} {bf : Nat → Int32} {ln : Nat → Int32} {lz : Nat} {ip : Nat → Int32} {ty : Nat} {he : Nat} {er : Int32} {ea : Int32} {fa : Int32} {cm : Nat → Int32} {cn : Nat} {n : Nat} {mn : Nat} (smo : z_Mo h 215 th al cg sv rs ac rj ro ad bf ln lz ip ty he er ea fa cm cn n mn)  (w : Nat) (hw : w < 612)  (hd : 0 ≤ d) : q_Spec g mX11_told d 0 0 [.ref (215), .int (nI (w))] h (q_chg (.inl (some (.int (x_mo_told al w).1))) (fun h1 => z_Mo h1 215 ((x_mo_told al w).2) al cg sv rs ac rj ro ad bf ln lz ip ty he er ea fa cm cn n mn ∧ q_same h h1 215 8)) := by
  have hb_mo_cg := smo.bcg
  have hb_mo_lz := smo.blz
  have hb_mo_ty := smo.bty
  have hb_mo_he := smo.bhe
  have hb_mo_cn := smo.bcn
  have hb_mo_n := smo.bn
  have hb_mo_mn := smo.bmn
  have ho_mo_cg := smo.bcg
  have ho_mo_lz := smo.blz
  have ho_mo_ty := smo.bty
  have ho_mo_he := smo.bhe
  have ho_mo_cn := smo.bcn
  have ho_mo_n := smo.bn
  have ho_mo_mn := smo.bmn
  have p0 : q_same h h 215 8 := q_same.rfl'
  refine q_enter (by decide +kernel) rfl rfl (Nat.le_of_ble_eq_true rfl) (fun hz => ?_)
  change q_W _ _ _ _ _ _ _ _ _ [.ref (215), .int (nI (w))] [] _
  refine q_aload_n (by first | assumption | omega | decide | (rw [q_R0e]; omega)) dX11_told_0 rfl ?_
  refine q_iconst (v := 0) dX11_told_1 rfl ?_
  refine q_putf (k := 0) kC_X11 kL_X11_40 rfl (by decide) rfl dX11_told_2 smo.c0 (Nat.le_of_ble_eq_true rfl) ⟨rfl, rfl⟩ rfl ?_
  refine z_genW (B := fun H => z_Mo H 215 0 al cg sv rs ac rj ro ad bf ln lz ip ty he er ea fa cm cn n mn ∧ q_same h H 215 8) ⟨z_Mo.put0 smo (cg' := cg) (sv' := sv) (lz' := lz) (ty' := ty) (he' := he) (cn' := cn) (hbcg := by first | omega | (split <;> omega)) (hblz := by first | omega | (split <;> omega)) (hbty := by first | omega | (split <;> omega)) (hbhe := by first | omega | (split <;> omega)) (hbcn := by first | omega | (split <;> omega)), p0.trans (q_same.set (by omega) (by omega))⟩ (fun h1 hB => ?_)
  obtain ⟨smo1, p1⟩ := hB
  have hb_mo_cg := smo1.bcg
  have hb_mo_lz := smo1.blz
  have hb_mo_ty := smo1.bty
  have hb_mo_he := smo1.bhe
  have hb_mo_cn := smo1.bcn
  have hb_mo_n := smo1.bn
  have hb_mo_mn := smo1.bmn
  refine q_aload_n (by first | assumption | omega | decide | (rw [q_R0e]; omega)) dX11_told_5 rfl ?_
  refine q_getf (k := 1) (v := .ref (216)) kC_X11 kL_X11_9 rfl (by decide) dX11_told_6 smo1.c0 rfl ?_
  refine q_iload_n dX11_told_9 rfl ?_
  refine q_ialdN (j := w) (f := al) dX11_told_10 smo1.c1 (by omega) (by decide) ?_
  change q_W _ _ _ _ _ _ _ _ _ _ [.int (al w)] _
  have hE : x_mo_told al w = (al w, 0) := by simp only [x_mo_told]
  rw [hE]
  exact q_ireturn dX11_told_11 rfl rfl (by omega) (by omega) ⟨rfl, smo1, p1⟩