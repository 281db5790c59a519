theorem z_letq (ac rj : Int32) {j : Nat} (hj : j < 32) : x_lb_letter ac rj j = x_mo_labelOf ac rj j := by
  unfold x_lb_letter x_mo_labelOf
  rw [z_has_bt _ hj, z_has_bt _ hj]
  have z1 := z_bit1 ac hj
  have z2 := z_bit1 rj hj
  by_cases a : z_bi ac j = true
  · rw [if_pos a, if_pos (z1.mpr a)]
  · rw [if_neg a, if_neg (fun c => a (z1.mp c))]
    by_cases b : z_bi rj j = true
    · rw [if_pos b, if_pos (z2.mpr b)]
    · rw [if_neg b, if_neg (fun c => b (z2.mp c))]
theorem z_bi255 : ∀ j, j < 32 → z_bi 255 j = decide (j < 8) := by decide +kernel
theorem z_sub8 {n : Nat} {x : Int32} (hn : n ≤ 8) (h : z_sub n 0 x) : ∃ m, m < 256 ∧ x = nI m := by
  have e : x = x &&& 255 := z_bi_ext fun j hj => by
    rw [z_bi_and, z_bi255 j hj]
    cases q : z_bi x j with
    | false => rfl
    | true =>
      have := (h j hj q).1
      rw [decide_eq_true (by omega)]
      rfl
  have h1 : (x.toBitVec &&& 255#32).toNat < 256 := by
    rw [BitVec.toNat_and]
    exact Nat.lt_of_le_of_lt Nat.and_le_right (by decide)
  refine ⟨(x.toBitVec &&& 255#32).toNat, h1, ?_⟩
  apply Int32.toBitVec_inj.mp
  have e2 : x.toBitVec = x.toBitVec &&& 255#32 := congrArg Int32.toBitVec e
  show x.toBitVec = BitVec.ofNat 32 _
  apply BitVec.eq_of_toNat_eq
  rw [BitVec.toNat_ofNat, ← e2]
  have := x.toBitVec.isLt
  omega
theorem z_subL {n : Nat} {x y : Int32} (h : z_sub n 0 (x ||| y)) : z_sub n 0 x := fun j hj q => h j hj (by rw [z_bi_or, q]; rfl)
theorem z_szbc {n : Nat} {x : Int32} (hn : n ≤ 8) (h : z_sub n 0 x) : z_bc x = x_mo_size x := by
  obtain ⟨m, hm, rfl⟩ := z_sub8 hn h
  exact (z_size m hm).symm
theorem z_cn8 (x : Int32) : z_cn x 8 ≤ 8 := z_cn_le x 8
theorem z_szcn : ∀ m, m < 256 → x_mo_size (nI m) = nI (z_cn (nI m) 8) := by decide +kernel
theorem z_fpF : ∀ m, m < 9 → ∀ n, n < 9 → n ≠ 0 → (FP.fdiv (FP.i2f (nI m)) (FP.i2f (nI n))) &&& 0x7fffffff ≤ 0x7f800000 ∧ (FP.f2d (FP.fdiv (FP.i2f (nI m)) (FP.i2f (nI n)))) &&& 0x7fffffffffffffff ≤ 0x7ff0000000000000 ∧ Op.cmpValue (FP.dcmp (FP.f2d (FP.fdiv (FP.i2f (nI m)) (FP.i2f (nI n)))) (FP.f2d (FP.fdiv (FP.i2f (nI m)) (FP.i2f (nI n))))) .l = 0 := by decide +kernel
theorem z_strb : ∀ w, w < 10 → ∀ a, a < 91 → ∃ m, m ≤ 9 ∧ (if (1 : Int32) ≤ nI w - nI a / 10 then nI w - nI a / 10 else 1) = nI m := by decide +kernel
theorem z_strB {B : Nat} {s : ZS} (W : z_wfB B s) {j : Nat} (hj : j < s.1) : ∃ m, m ≤ 9 ∧ x_st_strength s.2.2.1 s.2.2.2.1 j = nI m := by
  obtain ⟨w, w1, w2, e1⟩ := W.2.2.2.2.1 j hj
  obtain ⟨a, a1, e2⟩ := W.2.2.2.2.2.1 j hj
  unfold x_st_strength
  rw [e1, e2]
  exact z_strb w (by omega) a (by omega)
theorem z_mean4 {B : Nat} {al : Nat → Int32} {s : ZS} (W : z_wfB B s) (R : z_R al 0 s) : ∀ r k c, k + r = s.1 → c ≤ 9 * k → ∃ m, m ≤ 9 * s.1 ∧ x_am_meanStrength_25 s.2.2.1 s.2.2.2.1 r k (nI c) = nI m ∧ x_mo_meanStrength_4 al r k (nI c) = nI m := by
  intro r
  induction r with
  | zero =>
    intro k c hk hc
    exact ⟨c, by omega, rfl, rfl⟩
  | succ r ih =>
    intro k c hk hc
    obtain ⟨m, hm, e⟩ := z_strB W (by omega : k < s.1)
    have u1 : x_am_meanStrength_25 s.2.2.1 s.2.2.2.1 (r + 1) k (nI c) = x_am_meanStrength_25 s.2.2.1 s.2.2.2.1 r (k + 1) (nI c + x_st_strength s.2.2.1 s.2.2.2.1 k) := rfl
    have u2 : x_mo_meanStrength_4 al (r + 1) k (nI c) = x_mo_meanStrength_4 al r (k + 1) (nI c + x_mo_strength al k) := rfl
    rw [u1, u2, z_str R (by omega), e, nI_add]
    exact ih (k + 1) (c + m) (by omega) (by omega)
theorem z_fpD : ∀ m, m < 73 → ∀ n, n < 9 → n ≠ 0 → (FP.ddiv (FP.i2d (nI m)) (FP.i2d (nI n))) &&& 0x7fffffffffffffff ≤ 0x7ff0000000000000 := by decide +kernel
