theorem x_pl_2_upd {al : Nat → Int32} {i : Nat} {v xid : Int32} (h : i < 7 ∨ 31 ≤ i) : ∀ r k, k + r ≤ 8 → x_pl_2 (upd al i v) xid r k = x_pl_2 al xid r k := by
  intro r
  induction r with
  | zero => intro k _; rfl
  | succ r ih =>
    intro k hk
    simp only [x_pl_2]
    rw [upd_ne (by omega), ih (k + 1) (by omega)]
theorem x_pl_upd {n : Nat} {al : Nat → Int32} (i : Nat) {v xid : Int32} (h : i < 7 ∨ 31 ≤ i) (hn : n ≤ 8) : x_pl n (upd al i v) xid = x_pl n al xid := x_pl_2_upd h n 0 (by omega)
def x_mo_clearsMoves_7  : Nat → Nat → (Nat → Int32) → (Nat → Int32)
  | 0, _, al_7 => al_7
  | r + 1, k, al_7 => x_mo_clearsMoves_7  r (k + 1) (upd al_7 (39 + k) (0))
def x_mo_clearsMoves (al : Nat → Int32) (mn : Nat) : (Nat → Int32) := (let a2_0 := x_mo_clearsMoves_7 (12 - mn) mn al; (a2_0))
def x_mo_adds (al : Nat → Int32) (rs : Int32) (n : Nat) (xw : Int32) : (Int32) × (Nat → Int32) × (Int32) × (Nat) := (if x_mo_in xw 1 9 then (if n = 8 then (2, al, rs, n) else (0, upd (upd (upd (upd (upd (upd al (7 + (3 * n) + 0) (al 1)) (7 + (3 * n) + 1) (xw)) (7 + (3 * n) + 2) (0)) (31 + n) (0)) 0 (nI (n + 1))) 1 (((upd (upd (upd (upd (upd al (7 + (3 * n) + 0) (al 1)) (7 + (3 * n) + 1) (xw)) (7 + (3 * n) + 2) (0)) (31 + n) (0)) 0 (nI (n + 1))) 1) + (1 : Int32)), al 1, n + 1)) else (1, al, rs, n))
def x_mo_without (xs : Int32) (j : Nat) : Int32 := (xs &&& (((1 : Int32) <<< ((nI (j)) &&& 31)) - (1 : Int32))) ||| ((xs >>> ((nI (j + 1)) &&& 31)) <<< ((nI (j)) &&& 31))
def x_mo_wasMoved_4 (al : Nat → Int32) (xid : Int32) : Nat → Nat → (Bool) → (Bool)
  | 0, _, c4_2 => c4_2
  | r + 1, k, c4_2 => (if (al (39 + k)) = (xid) then x_mo_wasMoved_4 al xid r (k + 1) (c4_2 || true) else x_mo_wasMoved_4 al xid r (k + 1) (c4_2 || false))
def x_mo_wasMoved (al : Nat → Int32) (mn : Nat) (xid : Int32) : Bool := (let a1_0 := x_mo_wasMoved_4 al xid mn 0 false; a1_0)
def x_mo_breaksOff (al : Nat → Int32) : (Nat → Int32) × (Nat) := (let y3_al := x_mo_clearsMoves (upd (upd al 3 (0)) 6 (((upd al 3 (0)) 6) + (1 : Int32))) 0; (y3_al, 0))
def x_mo_removes_40 (k : Nat) : Nat → Nat → (Nat → Int32) → (Nat → Int32)
  | 0, _, al_40 => al_40
  | r + 1, kk, al_40 => x_mo_removes_40 k r (kk + 1) (upd al_40 (7 + (3 * k) + kk) (al_40 (7 + (3 * k) + 3 + kk)))
def x_mo_removes_30  : Nat → Nat → (Nat → Int32) → (Nat → Int32)
  | 0, _, al_30 => al_30
  | r + 1, k, al_30 => (let a3_0 := x_mo_removes_40 k 3 0 al_30; x_mo_removes_30  r (k + 1) (upd a3_0 (31 + k) (a3_0 (31 + k + 1))))
def x_mo_removes_115 (n : Nat) : Nat → Nat → (Nat → Int32) → (Nat → Int32)
  | 0, _, al_115 => al_115
  | r + 1, kkk, al_115 => x_mo_removes_115 n r (kkk + 1) (upd al_115 (7 + (3 * (n - 1)) + kkk) (0))
def x_mo_removes_165 (al : Nat → Int32) (n : Nat) (xid : Int32) : Nat → Nat → (Nat → Int32) → (Nat → Int32)
  | 0, _, al_165 => al_165
  | r + 1, kkkk, al_165 => x_mo_removes_165 al n xid r (kkkk + 1) (upd al_165 (31 + kkkk) (x_mo_without (al_165 (31 + kkkk)) ((x_pl n al xid) - 1)))
def x_mo_removes (al : Nat → Int32) (rs : Int32) (n : Nat) (mn : Nat) (xid : Int32) : (Int32) × (Nat → Int32) × (Int32) × (Nat) × (Nat) := (if x_pl n al xid = 0 then (3, al, rs, n, mn) else (let a6_0 := x_mo_removes_30 (n - 1 - ((x_pl n al xid) - 1)) ((x_pl n al xid) - 1) al; (let a9_0 := x_mo_removes_115 n 3 0 a6_0; (let a14_0 := x_mo_removes_165 al n xid (n - 1) 0 (upd (upd a9_0 (31 + (n - 1)) (0)) 0 (nI (n - 1))); (if x_mo_wasMoved a14_0 mn xid then (match x_mo_breaksOff a14_0 with | (y17_al, y17_mn) => (0, y17_al, (x_mo_attacks al n) - (x_mo_attacks a14_0 (n - 1)), n - 1, y17_mn)) else (0, a14_0, (x_mo_attacks al n) - (x_mo_attacks a14_0 (n - 1)), n - 1, mn))))))
def x_mo_leads (al : Nat → Int32) (rs : Int32) (n : Nat) (xf : Int32) (xt : Int32) : (Int32) × (Nat → Int32) × (Int32) := (if x_th n al xf then (if x_th n al xt then (if (xf) = (xt) then (1, al, rs) else (if x_mo_isAttack al (x_pl n al xf - 1) (x_pl n al xt - 1) then (2, al, rs) else (if (x_mo_attacks al n) = (20) then (2, al, rs) else (let v6 := x_mo_attacks (upd al (31 + (x_pl n al xf - 1)) ((al (31 + (x_pl n al xf - 1))) ||| ((1 : Int32) <<< ((nI (x_pl n al xt - 1)) &&& 31)))) n; (0, upd al (31 + (x_pl n al xf - 1)) ((al (31 + (x_pl n al xf - 1))) ||| ((1 : Int32) <<< ((nI (x_pl n al xt - 1)) &&& 31))), v6))))) else (3, al, rs)) else (3, al, rs))
def x_mo_yields (al : Nat → Int32) (rs : Int32) (n : Nat) (xf : Int32) (xt : Int32) : (Int32) × (Nat → Int32) × (Int32) := (if x_th n al xf then (if x_th n al xt then (if x_mo_isAttack al (x_pl n al xf - 1) (x_pl n al xt - 1) then (let v6 := x_mo_attacks (upd al (31 + (x_pl n al xf - 1)) ((al (31 + (x_pl n al xf - 1))) &&& (((1 : Int32) <<< ((nI (x_pl n al xt - 1)) &&& 31)) ^^^ (-1 : Int32)))) n; (0, upd al (31 + (x_pl n al xf - 1)) ((al (31 + (x_pl n al xf - 1))) &&& (((1 : Int32) <<< ((nI (x_pl n al xt - 1)) &&& 31)) ^^^ (-1 : Int32))), v6)) else (3, al, rs)) else (3, al, rs)) else (3, al, rs))
def x_mo_weighs (al : Nat → Int32) (rs : Int32) (n : Nat) (xid : Int32) (xw : Int32) : (Int32) × (Nat → Int32) × (Int32) := (if x_th n al xid then (if x_mo_in xw 1 9 then (0, upd al (7 + (3 * (x_pl n al xid - 1)) + 1) (xw), al (7 + (3 * (x_pl n al xid - 1)) + 1)) else (1, al, rs)) else (3, al, rs))
def x_mo_renews (al : Nat → Int32) (rs : Int32) (n : Nat) (xid : Int32) : (Int32) × (Nat → Int32) × (Int32) := (if x_th n al xid then (0, upd al (7 + (3 * (x_pl n al xid - 1)) + 2) (0), al (7 + (3 * (x_pl n al xid - 1)) + 2)) else (3, al, rs))
def x_mo_claims (al : Nat → Int32) (rs : Int32) (n : Nat) (mn : Nat) (xid : Int32) : (Int32) × (Nat → Int32) × (Int32) × (Nat) := (if x_th n al xid then (if mn ≤ 0 then (let v4 := x_mo_attackers (upd (upd al 39 (xid)) 3 (1)) n (x_pl n al xid - 1); (0, upd (upd al 39 (xid)) 3 (1), x_mo_size v4, 1)) else (2, al, rs, mn)) else (3, al, rs, mn))
def x_mo_isAllowed_47 (al : Nat → Int32) (mn : Nat) (xid : Int32) : Nat → Nat → (Bool) → (Bool)
  | 0, _, c47_4 => c47_4
  | r + 1, k, c47_4 => (if mn ≤ k then c47_4 else (if mn % 2 = 0 then (if (al (39 + k)) = (xid) then x_mo_isAllowed_47 al mn xid r (k + 2) (c47_4 && false) else x_mo_isAllowed_47 al mn xid r (k + 2) (c47_4 && true)) else c47_4))
def x_mo_isAllowed (al : Nat → Int32) (n : Nat) (mn : Nat) (xid : Int32) : Bool := (if (((x_mo_attackers al n (x_pl n al (al (39 + mn - 1)) - 1)) >>> ((nI (x_pl n al xid - 1)) &&& 31)) &&& (1 : Int32)) = (0) then false else (let a3_0 := x_mo_isAllowed_47 al mn xid mn 0 true; a3_0))
def x_mo_replies (al : Nat → Int32) (rs : Int32) (n : Nat) (mn : Nat) (xid : Int32) : (Int32) × (Nat → Int32) × (Int32) × (Nat) := (if mn = 0 then (3, al, rs, mn) else (if x_th n al xid then (if x_mo_isAllowed al n mn xid then (if mn = 12 then (2, al, rs, mn) else (0, upd (upd al (39 + mn) (xid)) 3 (nI (mn + 1)), nI (mn + 1), mn + 1)) else (1, al, rs, mn)) else (3, al, rs, mn)))
def x_mo_takes (al : Nat → Int32) (rs : Int32) (mn : Nat) : (Int32) × (Nat → Int32) × (Int32) × (Nat) := (if mn = 0 then (3, al, rs, mn) else (if mn = 1 then (2, al, rs, mn) else (let y2_al := x_mo_clearsMoves (upd al 3 (nI (mn - 1))) (mn - 1); (0, y2_al, nI (mn - 1), mn - 1))))
def x_mo_closes (al : Nat → Int32) (rs : Int32) (mn : Nat) : (Int32) × (Nat → Int32) × (Int32) × (Nat) := (if mn = 0 then (3, al, rs, mn) else (if mn % 2 = 1 then (let y10_al := x_mo_clearsMoves (upd (upd (upd al 4 ((al 4) + (1 : Int32))) 5 (((upd al 4 ((al 4) + (1 : Int32))) 5) + (1 : Int32))) 3 (0)) 0; (0, y10_al, 112, 0)) else (let y4_al := x_mo_clearsMoves (upd (upd (upd al 4 ((al 4) + (1 : Int32))) 5 (((upd al 4 ((al 4) + (1 : Int32))) 5) + (0 : Int32))) 3 (0)) 0; (0, y4_al, 111, 0))))
def x_mo_ages_2 (xd : Int32) : Nat → Nat → (Nat → Int32) → (Nat → Int32)
  | 0, _, al_2 => al_2
  | r + 1, k, al_2 => (if ((al_2 (7 + 3 * k + 2)) + xd) ≤ (90) then x_mo_ages_2 xd r (k + 1) (upd al_2 (7 + (3 * k) + 2) ((al_2 (7 + 3 * k + 2)) + xd)) else x_mo_ages_2 xd r (k + 1) (upd al_2 (7 + (3 * k) + 2) (90)))
def x_mo_ages (al : Nat → Int32) (n : Nat) (xd : Int32) : (Nat → Int32) := (let a3_0 := x_mo_ages_2 xd n 0 al; (upd a3_0 2 ((a3_0 2) + xd)))
def x_mo_passes_14 (al : Nat → Int32) (n : Nat) : Nat → Nat → (Nat → Int32) → (Nat → Int32)
  | 0, _, bf_14 => bf_14
  | r + 1, k, bf_14 => x_mo_passes_14 al n r (k + 1) (upd bf_14 k (x_mo_attackers al n k))
def x_mo_passes_53 (n : Nat) (a2_0 : Nat → Int32) (y4_al : Nat → Int32) : Nat → Nat → (Int32) → (Int32)
  | 0, _, rs_53 => rs_53
  | r + 1, kk, rs_53 => x_mo_passes_53 n a2_0 y4_al r (kk + 1) (rs_53 + (x_mo_size ((a2_0 kk) ^^^ (x_mo_attackers y4_al n kk))))
def x_mo_passes (al : Nat → Int32) (rs : Int32) (bf : Nat → Int32) (n : Nat) (xd : Int32) : (Int32) × (Nat → Int32) × (Int32) × (Nat → Int32) := (if x_mo_in xd 1 90 then (let a2_0 := x_mo_passes_14 al n n 0 bf; (let y4_al := x_mo_ages al n xd; (let a8_0 := x_mo_passes_53 n a2_0 y4_al n 0 0; (0, y4_al, a8_0, a2_0)))) else (1, al, rs, bf))
