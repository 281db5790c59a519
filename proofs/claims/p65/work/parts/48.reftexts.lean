def z_c16 (x : Int32) : Int32 := (x.toUInt32 % 65536).toInt32
theorem z_c16N {c : Nat} (h : c < 65536) : z_c16 (nI c) = nI c := by
  unfold z_c16
  rw [pk_char, pk_tn (by omega), Nat.mod_eq_of_lt h]
def x_mo_writes (ln : Nat → Int32) (lz : Nat) (xs : Int32) : (Nat → Int32) × (Nat) := (upd ln lz (((xs).toUInt32 % 65536).toInt32), lz + 1)
/-- the digits of v from place lz on -/
def x_wr (ln : Nat → Int32) (lz v : Nat) : Nat → Int32 := fun j => if lz ≤ j ∧ j < lz + sb_dg v then nI (sb_dec v (j - lz)) else ln j
theorem z_dg10 {v : Nat} (h : 10 ≤ v) (hv : v < 10000) : sb_dg v = sb_dg (v / 10) + 1 := by
  rw [z_dg hv, z_dg (by omega)]
  repeat' split
  all_goals omega
theorem z_dec10 {v k : Nat} (h : 10 ≤ v) (hv : v < 10000) (hk : k < sb_dg (v / 10)) : sb_dec v k = sb_dec (v / 10) k := by
  unfold sb_dec
  rw [z_dg10 h hv, Nat.div_div_eq_div_mul, ← Nat.pow_succ', show sb_dg (v / 10) + 1 - 1 - k = (sb_dg (v / 10) - 1 - k).succ by omega]
theorem x_wr_1 {ln : Nat → Int32} {lz v : Nat} (hv : v < 10) : upd ln lz (z_c16 (nI (48 + v % 10))) = x_wr ln lz v := by
  funext j
  have hd : sb_dg v = 1 := by rw [z_dg (by omega), if_pos (by omega), if_pos hv]
  unfold x_wr
  rw [hd, z_c16N (by omega)]
  by_cases e : j = lz
  · subst e
    rw [pk_us, if_pos (by omega), Nat.sub_self]
    unfold sb_dec
    rw [hd]
    simp
  · rw [pk_un e, if_neg (by omega)]
theorem x_wr_s {ln : Nat → Int32} {lz v : Nat} (h : 10 ≤ v) (hv : v < 10000) : upd (x_wr ln lz (v / 10)) (lz + sb_dg (v / 10)) (z_c16 (nI (48 + v % 10))) = x_wr ln lz v := by
  funext j
  have hd := z_dg10 h hv
  rw [z_c16N (by omega)]
  by_cases e : j = lz + sb_dg (v / 10)
  · subst e
    unfold x_wr
    rw [pk_us, hd, if_pos (by omega), Nat.add_sub_cancel_left]
    unfold sb_dec
    rw [hd, show sb_dg (v / 10) + 1 - 1 - sb_dg (v / 10) = 0 by omega]
    simp
  · rw [pk_un e]
    unfold x_wr
    rw [hd]
    by_cases c : lz ≤ j ∧ j < lz + sb_dg (v / 10)
    · rw [if_pos c, if_pos (by omega), z_dec10 h hv (by omega)]
    · rw [if_neg c, if_neg (by omega)]
def x_mo_writesBehind (ln : Nat → Int32) (lz : Nat) (xc : Int32) (xs : Int32) : (Nat → Int32) × (Nat) := (x_wr (upd ln lz (z_c16 xc)) (lz + 1) ((xs).toNatClampNeg), lz + 1 + sb_dg ((xs).toNatClampNeg))
