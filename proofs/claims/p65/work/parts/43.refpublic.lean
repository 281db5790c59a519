def x_mo_isFineR (xb : Bool) : (Bool) × (Int32) := (if xb then (xb, 0) else (xb, 1))
def x_mo_begins (al : Nat → Int32) : (Nat → Int32) := (x_cp al 0 10)
def x_mo_ends_61  : Nat → Nat → (Nat → Int32) → (Nat → Int32)
  | 0, _, al_61 => al_61
  | r + 1, k, al_61 => x_mo_ends_61  r (k + 1) (x_cp al_61 (k + 1) k)
def x_mo_ends_61_2  : Nat → Nat → (Nat → Int32) → (Nat → Int32)
  | 0, _, al_61 => al_61
  | r + 1, kk, al_61 => x_mo_ends_61_2  r (kk + 1) (x_cp al_61 (kk + 1) kk)
def x_mo_ends_61_3  : Nat → Nat → (Nat → Int32) → (Nat → Int32)
  | 0, _, al_61 => al_61
  | r + 1, kkk, al_61 => x_mo_ends_61_3  r (kkk + 1) (x_cp al_61 (kkk + 1) kkk)
def x_mo_ends_61_4  : Nat → Nat → (Nat → Int32) → (Nat → Int32)
  | 0, _, al_61 => al_61
  | r + 1, kkkk, al_61 => x_mo_ends_61_4  r (kkkk + 1) (x_cp al_61 (kkkk + 1) kkkk)
def x_mo_ends (al : Nat → Int32) (cg : Nat) (rs : Int32) (xb : Int32) (x1 : Int32) (x2 : Int32) (x3 : Int32) : (Int32) × (Int32) × (Nat → Int32) × (Nat) := (if (xb) = (1) then (if (x1) = (0) then (if cg = 8 then (let a34_0 := x_mo_ends_61_4 7 1 al; (rs, x1, x_cp a34_0 10 (cg - 1 + 1), cg - 1 + 1)) else (rs, x1, x_cp al 10 (cg + 1), cg + 1)) else (0, x1, x_cp al 10 0, cg)) else (if (xb) = (2) then (if (x2) = (0) then (if cg = 8 then (let a24_0 := x_mo_ends_61_3 7 1 al; (rs, x2, x_cp a24_0 10 (cg - 1 + 1), cg - 1 + 1)) else (rs, x2, x_cp al 10 (cg + 1), cg + 1)) else (0, x2, x_cp al 10 0, cg)) else (if (xb) = (3) then (if (x3) = (0) then (if cg = 8 then (let a14_0 := x_mo_ends_61_2 7 1 al; (rs, x3, x_cp a14_0 10 (cg - 1 + 1), cg - 1 + 1)) else (rs, x3, x_cp al 10 (cg + 1), cg + 1)) else (0, x3, x_cp al 10 0, cg)) else (if cg = 8 then (let a5_0 := x_mo_ends_61 7 1 al; (rs, 0, x_cp a5_0 10 (cg - 1 + 1), cg - 1 + 1)) else (rs, 0, x_cp al 10 (cg + 1), cg + 1)))))
theorem x_pl_2_cp {al : Nat → Int32} {f t : Nat} {xid : Int32} (h : 0 < t) : ∀ r k, k + r ≤ 8 → x_pl_2 (x_cp al f t) xid r k = x_pl_2 al xid r k := by
  intro r
  induction r with
  | zero => intro k _; rfl
  | succ r ih =>
    intro k hk
    simp only [x_pl_2]
    rw [x_cp_ne (by omega), ih (k + 1) (by omega)]
theorem x_pl_cp {n : Nat} {al : Nat → Int32} {f t : Nat} {xid : Int32} (h : 0 < t) (hn : n ≤ 8) : x_pl n (x_cp al f t) xid = x_pl n al xid := x_pl_2_cp h n 0 (by omega)
theorem z_in0 {x : Int32} {n : Nat} (hn : n < 2 ^ 30) (h : x_mo_in x 0 (nI n - 1) = true) : ¬ x < 0 ∧ x < nI n := by
  unfold x_mo_in at h
  split at h
  · cases h
  · split at h
    · cases h
    · next h1 h2 =>
      refine ⟨h1, ?_⟩
      have e : (nI n - nI 1).toInt = (n : Int) - 1 := pk_sub_toInt (a := n) (b := 1) hn (by decide)
      have e1 : (nI n - 1).toInt = (n : Int) - 1 := e
      rw [Int32.lt_iff_toInt_lt] at h2 ⊢
      rw [e1] at h2
      rw [nI_toInt (by omega)]
      omega
def x_mo_addArgument (al : Nat → Int32) (cg : Nat) (rs : Int32) (n : Nat) (xa : Int32) : (Int32) × (Int32) × (Nat → Int32) × (Nat) × (Int32) := (match x_mo_adds (x_cp al 0 10) rs n xa with | (v2, y2_al, y2_rs, y2_n) => (match x_mo_ends y2_al cg y2_rs v2 1 2 0 with | (v4, y4_th, y4_al, y4_cg) => (v4, y4_th, y4_al, y4_cg, y2_rs)))
def x_mo_removeArgument (al : Nat → Int32) (cg : Nat) (rs : Int32) (n : Nat) (mn : Nat) (xa : Int32) : (Int32) × (Int32) × (Nat → Int32) × (Nat) × (Int32) := (match x_mo_removes (x_cp al 0 10) rs n mn xa with | (v2, y2_al, y2_rs, y2_n, y2_mn) => (match x_mo_ends y2_al cg y2_rs v2 0 0 1 with | (v4, y4_th, y4_al, y4_cg) => (v4, y4_th, y4_al, y4_cg, y2_rs)))
def x_mo_addAttack (al : Nat → Int32) (cg : Nat) (rs : Int32) (n : Nat) (xa : Int32) (xc : Int32) : (Int32) × (Int32) × (Nat → Int32) × (Nat) × (Int32) := (match x_mo_leads (x_cp al 0 10) rs n xa xc with | (v2, y2_al, y2_rs) => (match x_mo_ends y2_al cg y2_rs v2 2 3 1 with | (v4, y4_th, y4_al, y4_cg) => (v4, y4_th, y4_al, y4_cg, y2_rs)))
def x_mo_removeAttack (al : Nat → Int32) (cg : Nat) (rs : Int32) (n : Nat) (xa : Int32) (xc : Int32) : (Int32) × (Int32) × (Nat → Int32) × (Nat) × (Int32) := (match x_mo_yields (x_cp al 0 10) rs n xa xc with | (v2, y2_al, y2_rs) => (match x_mo_ends y2_al cg y2_rs v2 0 0 1 with | (v4, y4_th, y4_al, y4_cg) => (v4, y4_th, y4_al, y4_cg, y2_rs)))
def x_mo_setWeight (al : Nat → Int32) (cg : Nat) (rs : Int32) (n : Nat) (xa : Int32) (xc : Int32) : (Int32) × (Int32) × (Nat → Int32) × (Nat) × (Int32) := (match x_mo_weighs (x_cp al 0 10) rs n xa xc with | (v2, y2_al, y2_rs) => (match x_mo_ends y2_al cg y2_rs v2 2 0 1 with | (v4, y4_th, y4_al, y4_cg) => (v4, y4_th, y4_al, y4_cg, y2_rs)))
def x_mo_renew (al : Nat → Int32) (cg : Nat) (rs : Int32) (n : Nat) (xa : Int32) : (Int32) × (Int32) × (Nat → Int32) × (Nat) × (Int32) := (match x_mo_renews (x_cp al 0 10) rs n xa with | (v2, y2_al, y2_rs) => (match x_mo_ends y2_al cg y2_rs v2 0 0 1 with | (v4, y4_th, y4_al, y4_cg) => (v4, y4_th, y4_al, y4_cg, y2_rs)))
def x_mo_startDialogue (al : Nat → Int32) (cg : Nat) (rs : Int32) (n : Nat) (mn : Nat) (xa : Int32) : (Int32) × (Int32) × (Nat → Int32) × (Nat) × (Int32) := (match x_mo_claims (x_cp al 0 10) rs n mn xa with | (v2, y2_al, y2_rs, y2_mn) => (match x_mo_ends y2_al cg y2_rs v2 0 2 1 with | (v4, y4_th, y4_al, y4_cg) => (v4, y4_th, y4_al, y4_cg, y2_rs)))
def x_mo_move (al : Nat → Int32) (cg : Nat) (rs : Int32) (n : Nat) (mn : Nat) (xa : Int32) : (Int32) × (Int32) × (Nat → Int32) × (Nat) × (Int32) := (match x_mo_replies (x_cp al 0 10) rs n mn xa with | (v2, y2_al, y2_rs, y2_mn) => (match x_mo_ends y2_al cg y2_rs v2 2 3 1 with | (v4, y4_th, y4_al, y4_cg) => (v4, y4_th, y4_al, y4_cg, y2_rs)))
def x_mo_takeBack (al : Nat → Int32) (cg : Nat) (rs : Int32) (mn : Nat) : (Int32) × (Int32) × (Nat → Int32) × (Nat) × (Int32) := (match x_mo_takes (x_cp al 0 10) rs mn with | (v2, y2_al, y2_rs, y2_mn) => (match x_mo_ends y2_al cg y2_rs v2 0 2 1 with | (v4, y4_th, y4_al, y4_cg) => (v4, y4_th, y4_al, y4_cg, y2_rs)))
def x_mo_endDialogue (al : Nat → Int32) (cg : Nat) (rs : Int32) (mn : Nat) : (Int32) × (Int32) × (Nat → Int32) × (Nat) × (Int32) := (match x_mo_closes (x_cp al 0 10) rs mn with | (v2, y2_al, y2_rs, y2_mn) => (match x_mo_ends y2_al cg y2_rs v2 0 0 1 with | (v4, y4_th, y4_al, y4_cg) => (((v4).toUInt32 % 65536).toInt32, y4_th, y4_al, y4_cg, y2_rs)))
def x_mo_pass (al : Nat → Int32) (cg : Nat) (rs : Int32) (bf : Nat → Int32) (n : Nat) (xa : Int32) : (Int32) × (Int32) × (Nat → Int32) × (Nat) × (Int32) × (Nat → Int32) := (match x_mo_passes (x_cp al 0 10) rs bf n xa with | (v2, y2_al, y2_rs, y2_bf) => (match x_mo_ends y2_al cg y2_rs v2 1 0 0 with | (v4, y4_th, y4_al, y4_cg) => (v4, y4_th, y4_al, y4_cg, y2_rs, y2_bf)))
def x_mo_day (al : Nat → Int32) : (Int32) × (Int32) := (match x_mo_told al 2 with | (v1, y1_th) => (v1, y1_th))
def x_mo_argumentCount (al : Nat → Int32) : (Int32) × (Int32) := (match x_mo_told al 0 with | (v1, y1_th) => (v1, y1_th))
def x_mo_dialogueTotal (al : Nat → Int32) : (Int32) × (Int32) := (match x_mo_told al 4 with | (v1, y1_th) => (v1, y1_th))
def x_mo_proponentWins (al : Nat → Int32) : (Int32) × (Int32) := (match x_mo_told al 5 with | (v1, y1_th) => (v1, y1_th))
def x_mo_brokenOffTotal (al : Nat → Int32) : (Int32) × (Int32) := (match x_mo_told al 6 with | (v1, y1_th) => (v1, y1_th))
def x_mo_moveCount (al : Nat → Int32) : (Int32) × (Int32) := (match x_mo_told al 3 with | (v1, y1_th) => (v1, y1_th))
def x_mo_isDialogueHeld (al : Nat → Int32) : (Bool) × (Int32) := (match x_mo_told al 3 with | (v1, y1_th) => (if (v1) ≤ (0) then (false, y1_th) else (true, y1_th)))
def x_mo_attackCount (al : Nat → Int32) (n : Nat) : (Int32) × (Int32) := (x_mo_attacks al n, 0)
def x_mo_successfulCount_9 (al : Nat → Int32) (n : Nat) : Nat → Nat → (Int32) → (Int32)
  | 0, _, c9_1 => c9_1
  | r + 1, k, c9_1 => x_mo_successfulCount_9 al n r (k + 1) (c9_1 + (x_mo_size (x_mo_attackers al n k)))
def x_mo_successfulCount (al : Nat → Int32) (n : Nat) : (Int32) × (Int32) := (let a2_0 := x_mo_successfulCount_9 al n n 0 0; (a2_0, 0))
def x_mo_undoableCount (cg : Nat) : (Int32) × (Int32) := (nI (cg), 0)
def x_mo_idAt (al : Nat → Int32) (n : Nat) (xp : Int32) : (Int32) × (Int32) := (if x_mo_in xp 0 ((nI (n)) - (1 : Int32)) then (al (7 + 3 * (xp).toNatClampNeg + 0), (if x_mo_in xp 0 ((nI (n)) - (1 : Int32)) then 0 else 1)) else (0, (if x_mo_in xp 0 ((nI (n)) - (1 : Int32)) then 0 else 1)))
def x_mo_ofArgument (al : Nat → Int32) (n : Nat) (xid : Int32) (w : Nat) : (Int32) × (Int32) := (if x_th n al xid then (al (7 + 3 * (x_pl n al xid - 1) + w), (if x_th n al xid then 0 else 1)) else (0, (if x_th n al xid then 0 else 1)))
def x_mo_weightOf (al : Nat → Int32) (n : Nat) (xid : Int32) : (Int32) × (Int32) := (match x_mo_ofArgument al n xid 1 with | (v1, y1_th) => (v1, y1_th))
def x_mo_ageOf (al : Nat → Int32) (n : Nat) (xid : Int32) : (Int32) × (Int32) := (match x_mo_ofArgument al n xid 2 with | (v1, y1_th) => (v1, y1_th))
def x_mo_strengthOf (al : Nat → Int32) (n : Nat) (xid : Int32) : (Int32) × (Int32) := (if x_th n al xid then (x_mo_strength al (x_pl n al xid - 1), (if x_th n al xid then 0 else 1)) else (0, (if x_th n al xid then 0 else 1)))
def x_mo_attackerCount (al : Nat → Int32) (n : Nat) (xid : Int32) : (Int32) × (Int32) := (if x_th n al xid then (x_mo_size (x_mo_attackers al n (x_pl n al xid - 1)), (if x_th n al xid then 0 else 1)) else (0, (if x_th n al xid then 0 else 1)))
def x_mo_areThere (al : Nat → Int32) (n : Nat) (xf : Int32) (xt : Int32) : (Bool) × (Int32) := (if x_th n al xf then (if x_th n al xt then (true, 0) else (false, 1)) else (false, 1))
def x_ath (n : Nat) (al : Nat → Int32) (xf xt : Int32) : Bool := x_th n al xf && x_th n al xt
theorem z_ath {n : Nat} {al : Nat → Int32} {xf xt : Int32} (h : x_ath n al xf xt = true) : 0 < x_pl n al xf ∧ 0 < x_pl n al xt := by
  unfold x_ath at h
  rw [Bool.and_eq_true] at h
  exact ⟨z_th h.1, z_th h.2⟩
def x_mo_hasAttack (al : Nat → Int32) (n : Nat) (xf : Int32) (xt : Int32) : (Bool) × (Int32) := (if x_ath n al xf xt then (if x_mo_isAttack al (x_pl n al xf - 1) (x_pl n al xt - 1) then (true, (if x_ath n al xf xt then 0 else 1)) else (false, (if x_ath n al xf xt then 0 else 1))) else (false, (if x_ath n al xf xt then 0 else 1)))
def x_mo_isSuccessful (al : Nat → Int32) (n : Nat) (xf : Int32) (xt : Int32) : (Bool) × (Int32) := (if x_th n al xf then (if x_th n al xt then (if x_mo_isAttack al (x_pl n al xf - 1) (x_pl n al xt - 1) then (if x_mo_wins al (x_pl n al xf - 1) (x_pl n al xt - 1) then (true, 0) else (false, 0)) else (false, 1)) else (false, 1)) else (false, 1))
def x_mo_attackerAt_30 (al : Nat → Int32) (n : Nat) (xid : Int32) (xp : Int32) : Nat → Nat → (Int32) → (Unit) ⊕ ((Int32) × (Int32))
  | 0, _, _ => .inl ()
  | r + 1, k, c30_4 => (if (((x_mo_attackers al n (x_pl n al xid - 1)) >>> ((nI (k)) &&& 31)) &&& (1 : Int32)) = (1) then (if (c30_4) = (xp) then .inr (al (7 + 3 * k + 0), (if x_th n al xid then 0 else 1)) else x_mo_attackerAt_30 al n xid xp r (k + 1) (c30_4 + (1 : Int32))) else x_mo_attackerAt_30 al n xid xp r (k + 1) (c30_4 + (0 : Int32)))
def x_mo_attackerAt (al : Nat → Int32) (n : Nat) (xid : Int32) (xp : Int32) : (Int32) × (Int32) := (if x_th n al xid then (match x_mo_attackerAt_30 al n xid xp n 0 0 with | .inl () => (0, 2) | .inr zz => zz) else (0, (if x_th n al xid then 0 else 1)))
def x_mo_isAhead (al : Nat → Int32) (n : Nat) (i : Nat) (j : Nat) : Bool := (if (0 : Int32) < ((x_mo_strength al i) - (x_mo_strength al j)) then true else (if ((x_mo_strength al i) - (x_mo_strength al j)) = (0) then (if (0 : Int32) < ((x_mo_size (x_mo_attackers al n j)) - (x_mo_size (x_mo_attackers al n i))) then true else (if ((x_mo_size (x_mo_attackers al n j)) - (x_mo_size (x_mo_attackers al n i))) = (0) then (if j ≤ i then false else true) else false)) else false))
def x_mo_argumentByStrength_17 (al : Nat → Int32) (n : Nat) (k : Nat) : Nat → Nat → (Int32) → (Int32)
  | 0, _, c17_3 => c17_3
  | r + 1, kk, c17_3 => (if x_mo_isAhead al n kk k then x_mo_argumentByStrength_17 al n k r (kk + 1) (c17_3 + (1 : Int32)) else x_mo_argumentByStrength_17 al n k r (kk + 1) (c17_3 + (0 : Int32)))
def x_mo_argumentByStrength_2 (al : Nat → Int32) (n : Nat) (xr : Int32) : Nat → Nat → (Int32) → ((Int32)) ⊕ ((Int32) × (Int32))
  | 0, _, th_2 => .inl th_2
  | r + 1, k, th_2 => (let a1_0 := x_mo_argumentByStrength_17 al n k n 0 0; (if (a1_0) = (xr) then .inr (al (7 + 3 * k + 0), 0) else x_mo_argumentByStrength_2 al n xr r (k + 1) 1))
def x_mo_argumentByStrength (th : Int32) (al : Nat → Int32) (n : Nat) (xr : Int32) : (Int32) × (Int32) := (match x_mo_argumentByStrength_2 al n xr n 0 th with | .inl a5_0 => (0, 1) | .inr zz => zz)
theorem z_vp39 {x : Int32} {n : Nat} (h1 : ¬ x < 0) (h2 : x < nI n) (hn : n ≤ 12) : vp_in (39 + x) 612 := by
  obtain ⟨j, hj, rfl⟩ := nI_of h1
  have := (nI_ltI hj (by omega)).mp h2
  show vp_in (nI 39 + nI j) 612
  rw [nI_add]
  exact vp_in_nI (by omega) (by decide)
def x_mo_moveAt (al : Nat → Int32) (mn : Nat) (xp : Int32) : (Int32) × (Int32) := (if x_mo_in xp 0 ((nI (mn)) - (1 : Int32)) then (al ((39 : Int32) + xp).toNatClampNeg, (if x_mo_in xp 0 ((nI (mn)) - (1 : Int32)) then 0 else 1)) else (0, (if x_mo_in xp 0 ((nI (mn)) - (1 : Int32)) then 0 else 1)))
def x_mo_canMove (al : Nat → Int32) (n : Nat) (mn : Nat) (xid : Int32) : (Bool) × (Int32) := (if mn ≤ 0 then (false, 1) else (if x_th n al xid then (if 12 ≤ mn then (false, 0) else (if x_mo_isAllowed al n mn xid then (true, 0) else (false, 0))) else (false, 1)))
def x_mo_stableCount_9 (al : Nat → Int32) (n : Nat) : Nat → Nat → (Int32) → (Int32)
  | 0, _, c9_1 => c9_1
  | r + 1, k, c9_1 => (if x_mo_isFree al n (nI (k)) then (if ((nI (k)) ||| (x_mo_attackedBy al n (nI (k)))) = (nI (2 ^ n - 1)) then x_mo_stableCount_9 al n r (k + 1) (c9_1 + (1 : Int32)) else x_mo_stableCount_9 al n r (k + 1) (c9_1 + (0 : Int32))) else x_mo_stableCount_9 al n r (k + 1) (c9_1 + (0 : Int32)))
def x_mo_stableCount (al : Nat → Int32) (n : Nat) : (Int32) × (Int32) := (let a6_0 := x_mo_stableCount_9 al n (2 ^ n) 0 0; (a6_0, 0))
def x_mo_stableCountByLabels (al : Nat → Int32) (n : Nat) : (Int32) × (Int32) := (match x_mo_stableCount al n with | (v1, y1_th) => (v1, y1_th))
def x_mo_preferredCount (al : Nat → Int32) (ad : Nat → Int32) (n : Nat) : (Int32) × (Int32) × (Nat → Int32) := (match x_mo_preferredWith al ad n 0 with | (v2, y2_ad) => (v2, 0, y2_ad))
def x_mo_greatestAdmissible_9 (al : Nat → Int32) (n : Nat) : Nat → Nat → (Int32) → (Int32)
  | 0, _, c9_1 => c9_1
  | r + 1, k, c9_1 => (if (x_mo_size (nI (k))) ≤ (c9_1) then x_mo_greatestAdmissible_9 al n r (k + 1) c9_1 else (if x_mo_isAdmissible al n (nI (k)) then x_mo_greatestAdmissible_9 al n r (k + 1) (x_mo_size (nI (k))) else x_mo_greatestAdmissible_9 al n r (k + 1) c9_1))
def x_mo_greatestAdmissible (al : Nat → Int32) (n : Nat) : (Int32) × (Int32) := (let a5_0 := x_mo_greatestAdmissible_9 al n (2 ^ n) 0 0; (a5_0, 0))
def x_mo_isConsistent  : (Bool) × (Int32) := (true, 0)
def x_mo_errorPosition (ea : Int32) : (Int32) × (Int32) := (if (ea) = (-1) then (0, 1) else (ea, 0))
def x_mo_failedCommand (fa : Int32) : (Int32) × (Int32) := (if (fa) = (-1) then (0, 1) else (fa, 0))
def x_mo_undo (al : Nat → Int32) (cg : Nat) : (Int32) × (Int32) × (Nat → Int32) × (Nat) := (if cg ≤ 0 then (0, 1, al, cg) else (nI (cg - 1), 0, x_cp al cg 0, cg - 1))
def x_mo_save (al : Nat → Int32) : (Int32) × (Int32) × (Nat → Int32) × (Bool) := ((x_cp al 0 9) 0, 0, x_cp al 0 9, true)
def x_mo_restore (al : Nat → Int32) (cg : Nat) (sv : Bool) : (Int32) × (Int32) × (Nat → Int32) × (Nat) := (if sv then ((x_cp al 9 0) 0, (if sv then 0 else 1), x_cp al 9 0, 0) else (0, (if sv then 0 else 1), al, cg))
