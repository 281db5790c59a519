def x_mo_formatArgument_81 (al : Nat → Int32) (n : Nat) (xid : Int32) : Nat → Nat → (Nat → Int32) → (Nat) → (Nat → Int32) × (Nat)
  | 0, _, ln_81, lz_81 => (ln_81, lz_81)
  | r + 1, k, ln_81, lz_81 => (if (((x_mo_attackers al n (x_pl n al xid - 1)) >>> ((nI (k)) &&& 31)) &&& (1 : Int32)) = (1) then x_mo_formatArgument_81 al n xid r (k + 1) (x_wr (upd ln_81 lz_81 (z_c16 60)) (lz_81 + 1) ((al (7 + 3 * k + 0)).toNatClampNeg)) (lz_81 + 1 + sb_dg ((al (7 + 3 * k + 0)).toNatClampNeg)) else x_mo_formatArgument_81 al n xid r (k + 1) ln_81 lz_81)
def x_mo_formatArgument (al : Nat → Int32) (ac : Int32) (rj : Int32) (ro : Nat → Int32) (ln : Nat → Int32) (lz : Nat) (n : Nat) (xid : Int32) : (Int32) × (Int32) × (Int32) × (Int32) × (Nat → Int32) × (Nat → Int32) × (Nat) := (if x_th n al xid then (match x_mo_labelsAll al n ro with | (y3_ac, y3_rj, y3_ro) => (match x_mo_formatArgument_81 al n xid n 0 (upd (upd (x_wr (upd (x_wr (upd (x_wr ln 0 ((xid).toNatClampNeg)) (0 + sb_dg ((xid).toNatClampNeg)) (z_c16 40)) (0 + sb_dg ((xid).toNatClampNeg) + 1) ((x_mo_strength al (x_pl n al xid - 1)).toNatClampNeg)) (0 + sb_dg ((xid).toNatClampNeg) + 1 + sb_dg ((x_mo_strength al (x_pl n al xid - 1)).toNatClampNeg)) (z_c16 47)) (0 + sb_dg ((xid).toNatClampNeg) + 1 + sb_dg ((x_mo_strength al (x_pl n al xid - 1)).toNatClampNeg) + 1) ((al (7 + 3 * (x_pl n al xid - 1) + 1)).toNatClampNeg)) (0 + sb_dg ((xid).toNatClampNeg) + 1 + sb_dg ((x_mo_strength al (x_pl n al xid - 1)).toNatClampNeg) + 1 + sb_dg ((al (7 + 3 * (x_pl n al xid - 1) + 1)).toNatClampNeg)) (z_c16 41)) (0 + sb_dg ((xid).toNatClampNeg) + 1 + sb_dg ((x_mo_strength al (x_pl n al xid - 1)).toNatClampNeg) + 1 + sb_dg ((al (7 + 3 * (x_pl n al xid - 1) + 1)).toNatClampNeg) + 1) (z_c16 (x_mo_labelOf y3_ac y3_rj (x_pl n al xid - 1)))) (0 + sb_dg ((xid).toNatClampNeg) + 1 + sb_dg ((x_mo_strength al (x_pl n al xid - 1)).toNatClampNeg) + 1 + sb_dg ((al (7 + 3 * (x_pl n al xid - 1) + 1)).toNatClampNeg) + 1 + 1) with | (a16_0, a16_1) => (nI (a16_1), (if x_th n al xid then 0 else 1), y3_ac, y3_rj, y3_ro, a16_0, a16_1))) else (0, (if x_th n al xid then 0 else 1), ac, rj, ro, ln, lz))
def x_mo_formatDialogue_30 (al : Nat → Int32) : Nat → Nat → (Nat → Int32) → (Nat) → (Nat → Int32) × (Nat)
  | 0, _, ln_30, lz_30 => (ln_30, lz_30)
  | r + 1, k, ln_30, lz_30 => (if k ≤ 0 then (if k % 2 = 0 then x_mo_formatDialogue_30 al r (k + 1) (x_wr (upd ln_30 lz_30 (z_c16 112)) (lz_30 + 1) ((al (39 + k)).toNatClampNeg)) (lz_30 + 1 + sb_dg ((al (39 + k)).toNatClampNeg)) else x_mo_formatDialogue_30 al r (k + 1) (x_wr (upd ln_30 lz_30 (z_c16 111)) (lz_30 + 1) ((al (39 + k)).toNatClampNeg)) (lz_30 + 1 + sb_dg ((al (39 + k)).toNatClampNeg))) else (if k % 2 = 0 then x_mo_formatDialogue_30 al r (k + 1) (x_wr (upd (upd ln_30 lz_30 (z_c16 32)) (lz_30 + 1) (z_c16 112)) (lz_30 + 2) ((al (39 + k)).toNatClampNeg)) (lz_30 + 2 + sb_dg ((al (39 + k)).toNatClampNeg)) else x_mo_formatDialogue_30 al r (k + 1) (x_wr (upd (upd ln_30 lz_30 (z_c16 32)) (lz_30 + 1) (z_c16 111)) (lz_30 + 2) ((al (39 + k)).toNatClampNeg)) (lz_30 + 2 + sb_dg ((al (39 + k)).toNatClampNeg))))
def x_mo_formatDialogue (al : Nat → Int32) (ln : Nat → Int32) (lz : Nat) (mn : Nat) : (Int32) × (Int32) × (Nat → Int32) × (Nat) := (if mn ≤ 0 then (0, 1, ln, lz) else (match x_mo_formatDialogue_30 al mn 0 ln 0 with | (a13_0, a13_1) => (nI (a13_1), 0, a13_0, a13_1)))
theorem z_vin {x : Int32} {n m : Nat} (h : ¬ x < 0 ∧ x < nI n) (hn : n ≤ m) (hm : m < 2 ^ 30) : vp_in x m := by
  obtain ⟨j, hj, rfl⟩ := nI_of h.1
  have := (nI_ltI hj (by omega)).mp h.2
  exact vp_in_nI (by omega) (by omega)
theorem z_mlc {ln : Nat → Int32} {x : Int32} {lz : Nat} (hch : ∀ j, j < lz → narrow .char (.int (ln j)) = .int (ln j)) (h : ¬ x < 0 ∧ x < nI lz) (hn : lz ≤ 160) : narrow .char (.int (ln x.toNatClampNeg)) = .int (ln x.toNatClampNeg) := by
  obtain ⟨j, hj, rfl⟩ := nI_of h.1
  rw [nI_clamp hj]
  exact hch j ((nI_ltI hj (by omega)).mp h.2)
theorem z_vcl {x : Int32} (h : z_lat x) : vp_nar .char x = x := by
  unfold vp_nar
  rw [z_lat_char h]
theorem z_in2 {x : Int32} (h : x_mo_in x 32 126 = true) : z_lat x := by
  unfold x_mo_in at h
  split at h
  · cases h
  · next h1 =>
    split at h
    · cases h
    · next h2 => exact z_latr h1 (Int32.not_lt.mp h2)
def x_mo_lineChar (ln : Nat → Int32) (lz : Nat) (xp : Int32) : (Int32) × (Int32) := (if x_mo_in xp 0 ((nI (lz)) - (1 : Int32)) then (ln (xp).toNatClampNeg, (if x_mo_in xp 0 ((nI (lz)) - (1 : Int32)) then 0 else 1)) else (0, (if x_mo_in xp 0 ((nI (lz)) - (1 : Int32)) then 0 else 1)))
def x_mo_append (ip : Nat → Int32) (ty : Nat) (xc : Int32) : (Int32) × (Int32) × (Nat → Int32) × (Nat) := (if x_mo_in xc 32 126 then (if ty = 60 then (0, 2, ip, ty) else (nI (ty + 1), 0, upd ip ty (xc), ty + 1)) else (0, 1, ip, ty))
