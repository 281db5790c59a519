def x_mo_canOpponentWin (al : Nat → Int32) (ro : Nat → Int32) (n : Nat) (xid : Int32) : (Bool) × (Int32) × (Int32) × (Int32) × (Nat → Int32) := (match x_mo_isAcceptedByGame al ro n xid with | (v1, y1_th, y1_ac, y1_rj, y1_ro) => (if (y1_th) = (0) then (if v1 then (false, y1_th, y1_ac, y1_rj, y1_ro) else (true, y1_th, y1_ac, y1_rj, y1_ro)) else (false, y1_th, y1_ac, y1_rj, y1_ro)))
theorem z_pw01 {al ad : Nat → Int32} {n : Nat} {xs : Int32} (h : z_01 ad) : z_01 (x_mo_preferredWith al ad n xs).2 := z_fa01 h
def x_mo_isCertain (al : Nat → Int32) (ad : Nat → Int32) (n : Nat) (xid : Int32) : (Bool) × (Int32) × (Nat → Int32) := (if x_th n al xid then (match x_mo_preferredWith al ad n ((1 : Int32) <<< ((nI (x_pl n al xid - 1)) &&& 31)) with | (v3, y3_ad) => (match x_mo_preferredWith al y3_ad n 0 with | (v5, y5_ad) => (if (v3) = (v5) then (true, (if x_th n al xid then 0 else 1), y5_ad) else (false, (if x_th n al xid then 0 else 1), y5_ad)))) else (false, (if x_th n al xid then 0 else 1), ad))
theorem z_ages_2_out {al0 : Nat → Int32} {xd : Int32} {i : Nat} (hi : 51 ≤ i) : ∀ (r k : Nat) (al : Nat → Int32), k + r ≤ 8 → x_mo_ages_2 xd r k al i = al i := by
  intro r
  induction r with
  | zero => intro k al _; rfl
  | succ r ih =>
    intro k al hk
    simp only [x_mo_ages_2]
    split
    all_goals (rw [ih _ _ (by omega), upd_ne (by omega)])
theorem z_ages_out {al : Nat → Int32} {n : Nat} {xd : Int32} {i : Nat} (hi : 51 ≤ i) (hn : n ≤ 8) : x_mo_ages al n xd i = al i := by
  unfold x_mo_ages
  rw [upd_ne (by omega), z_ages_2_out (al0 := al) hi _ _ _ (by omega)]
def x_mo_labelsAfter (al : Nat → Int32) (ro : Nat → Int32) (n : Nat) (xd : Int32) : (Int32) × (Nat → Int32) × (Int32) × (Int32) × (Nat → Int32) := (let y2_al := x_mo_ages (x_cp al 0 11) n xd; (match x_mo_labelsAll y2_al n ro with | (y4_ac, y4_rj, y4_ro) => (y4_ac ||| (y4_rj <<< ((8 : Int32) &&& 31)), x_cp y2_al 11 0, y4_ac, y4_rj, y4_ro)))
theorem z_la_row {al ro : Nat → Int32} {n : Nat} {xd : Int32} {i : Nat} (hi : i < 51) (hn : n ≤ 8) : (x_mo_labelsAfter al ro n xd).2.1 i = al i := by
  unfold x_mo_labelsAfter
  dsimp only
  have e := x_cp_in (al := x_mo_ages (x_cp al 0 11) n xd) (f := 11) (t := 0) hi
  rw [Nat.mul_zero, Nat.zero_add] at e
  rw [e, z_ages_out (by omega) hn, x_cp_in (t := 11) hi, Nat.mul_zero, Nat.zero_add]
theorem x_pl_2_congr {al al' : Nat → Int32} {xid : Int32} (h : ∀ i, i < 51 → al' i = al i) : ∀ r k, k + r ≤ 8 → x_pl_2 al' xid r k = x_pl_2 al xid r k := by
  intro r
  induction r with
  | zero => intro k _; rfl
  | succ r ih =>
    intro k hk
    simp only [x_pl_2]
    rw [h _ (by omega), ih (k + 1) (by omega)]
theorem x_pl_congr {n : Nat} {al al' : Nat → Int32} {xid : Int32} (h : ∀ i, i < 51 → al' i = al i) (hn : n ≤ 8) : x_pl n al' xid = x_pl n al xid := x_pl_2_congr h n 0 (by omega)
def x_mo_daysUntilChange_8 (n : Nat) (v1 : Int32) : Nat → Nat → (Int32) → (Nat → Int32) → (Int32) → (Nat → Int32) → (Nat) × (Int32) × (Nat → Int32) × (Int32) × (Nat → Int32)
  | 0, k, ac_8, al_8, rj_8, ro_8 => (k, ac_8, al_8, rj_8, ro_8)
  | r + 1, k, ac_8, al_8, rj_8, ro_8 => (match x_mo_labelsAfter al_8 ro_8 n (nI (k)) with | (v3, y3_al, y3_ac, y3_rj, y3_ro) => (if (v3) = (v1) then x_mo_daysUntilChange_8 n v1 r (k + 1) y3_ac y3_al y3_rj y3_ro else (k, y3_ac, y3_al, y3_rj, y3_ro)))
def x_mo_daysUntilChange (al : Nat → Int32) (ro : Nat → Int32) (n : Nat) : (Int32) × (Int32) × (Nat → Int32) × (Int32) × (Int32) × (Nat → Int32) := (match x_mo_labelsAfter al ro n 0 with | (v1, y1_al, y1_ac, y1_rj, y1_ro) => (match x_mo_daysUntilChange_8 n v1 90 1 y1_ac y1_al y1_rj y1_ro with | (a5_0, a5_1, a5_2, a5_3, a5_4) => (if 90 < a5_0 then (0, 1, a5_2, a5_1, a5_3, a5_4) else (nI (a5_0), 0, a5_2, a5_1, a5_3, a5_4))))
def x_mo_statusAfter (al : Nat → Int32) (ac : Int32) (rj : Int32) (ro : Nat → Int32) (n : Nat) (xid : Int32) (xn : Int32) : (Int32) × (Int32) × (Nat → Int32) × (Int32) × (Int32) × (Nat → Int32) := (if x_th n al xid then (if x_mo_in xn 0 90 then (match x_mo_labelsAfter al ro n xn with | (v2, y2_al, y2_ac, y2_rj, y2_ro) => (x_mo_labelOf y2_ac y2_rj (x_pl n al xid - 1), 0, y2_al, y2_ac, y2_rj, y2_ro)) else (0, 2, al, ac, rj, ro)) else (0, 1, al, ac, rj, ro))
def x_mo_meanStrength_4 (al : Nat → Int32) : Nat → Nat → (Int32) → (Int32)
  | 0, _, c4_1 => c4_1
  | r + 1, k, c4_1 => x_mo_meanStrength_4 al r (k + 1) (c4_1 + (x_mo_strength al k))
def x_mo_meanStrength (al : Nat → Int32) (n : Nat) : (UInt64) × (Int32) := (let a1_0 := x_mo_meanStrength_4 al n 0 0; (if n ≤ 0 then (FP.dconst0, 1) else (FP.ddiv (FP.i2d (a1_0)) (FP.i2d (nI (n))), 0)))
def x_mo_acceptedShare (al : Nat → Int32) (ro : Nat → Int32) (n : Nat) : (UInt32) × (Int32) × (Int32) × (Int32) × (Nat → Int32) := (match x_mo_labelsAll al n ro with | (y1_ac, y1_rj, y1_ro) => (if n ≤ 0 then (FP.fconst0, 1, y1_ac, y1_rj, y1_ro) else (FP.fdiv (FP.i2f (x_mo_size y1_ac)) (FP.i2f (nI (n))), 0, y1_ac, y1_rj, y1_ro)))
