theorem z_letq (ac rj : Int32) {j : Nat} (hj : j < 32) : x_lb_letter ac rj j = x_mo_labelOf ac rj j := by
  unfold x_lb_letter x_mo_labelOf
  rw [z_has_bt _ hj, z_has_bt _ hj]
  have z1 := z_bit1 ac hj
  have z2 := z_bit1 rj hj
  by_cases a : z_bi ac j = true
  · rw [if_pos a, if_pos (z1.mpr a)]
  · rw [if_neg a, if_neg (fun c => a (z1.mp c))]
    by_cases b : z_bi rj j = true
    · rw [if_pos b, if_pos (z2.mpr b)]
    · rw [if_neg b, if_neg (fun c => b (z2.mp c))]
theorem z_bi255 : ∀ j, j < 32 → z_bi 255 j = decide (j < 8) := by decide +kernel
theorem z_sub8 {n : Nat} {x : Int32} (hn : n ≤ 8) (h : z_sub n 0 x) : ∃ m, m < 256 ∧ x = nI m := by
  have e : x = x &&& 255 := z_bi_ext fun j hj => by
    rw [z_bi_and, z_bi255 j hj]
    cases q : z_bi x j with
    | false => rfl
    | true =>
      have := (h j hj q).1
      rw [decide_eq_true (by omega)]
      rfl
  have h1 : (x.toBitVec &&& 255#32).toNat < 256 := by
    rw [BitVec.toNat_and]
    exact Nat.lt_of_le_of_lt Nat.and_le_right (by decide)
  refine ⟨(x.toBitVec &&& 255#32).toNat, h1, ?_⟩
  apply Int32.toBitVec_inj.mp
  have e2 : x.toBitVec = x.toBitVec &&& 255#32 := congrArg Int32.toBitVec e
  show x.toBitVec = BitVec.ofNat 32 _
  apply BitVec.eq_of_toNat_eq
  rw [BitVec.toNat_ofNat, ← e2]
  have := x.toBitVec.isLt
  omega
theorem z_subL {n : Nat} {x y : Int32} (h : z_sub n 0 (x ||| y)) : z_sub n 0 x := fun j hj q => h j hj (by rw [z_bi_or, q]; rfl)
theorem z_szbc {n : Nat} {x : Int32} (hn : n ≤ 8) (h : z_sub n 0 x) : z_bc x = x_mo_size x := by
  obtain ⟨m, hm, rfl⟩ := z_sub8 hn h
  exact (z_size m hm).symm
theorem p_status : z_P_status := by
  intro t hs se sf s s1 nx kp rw ic fi lc fl al cg sv ad ln lz ip ty ea fa ca cj co ro xid ht J
  refine ⟨?_, J.up⟩
  obtain ⟨l1, l2, l3, l4⟩ := z_labels J.1 J.2.1 co ro
  have h8 := J.1.1
  unfold x_am_status x_mo_status
  generalize x_lb_give co s.1 s.2.2.2.2.2.1 = g at l1 l2 l4
  generalize x_mo_labelsAll al s.1 ro = q at l1 l2 l3 l4
  obtain ⟨ga, gj, gr⟩ := g
  obtain ⟨la, lj, lr⟩ := q
  dsimp only at l1 l2 l3 l4
  subst l1 l2
  rcases z_find J.2.1 xid with ⟨a, b, c⟩ | ⟨v, hv, a, b, c, d⟩
  · rw [a, c]
    exact Or.inl ⟨rfl, rfl⟩
  · rw [a, b, c, Nat.add_sub_cancel]
    refine Or.inr ⟨rfl, ?_⟩
    show q_oI (.inl (x_lb_letter ga gj v)) = _
    rw [z_letq ga gj (by omega)]
    rfl
theorem p_roundOf : z_P_roundOf := by
  intro t hs se sf s s1 nx kp rw ic fi lc fl al cg sv ad ln lz ip ty ea fa ca cj co ro xid ht J
  refine ⟨?_, J.up⟩
  obtain ⟨l1, l2, l3, l4⟩ := z_labels J.1 J.2.1 co ro
  have h8 := J.1.1
  unfold x_am_roundOf x_mo_roundOf
  generalize x_lb_give co s.1 s.2.2.2.2.2.1 = g at l1 l2 l4
  generalize x_mo_labelsAll al s.1 ro = q at l1 l2 l3 l4
  obtain ⟨ga, gj, gr⟩ := g
  obtain ⟨la, lj, lr⟩ := q
  dsimp only at l1 l2 l3 l4
  subst l1 l2
  rcases z_find J.2.1 xid with ⟨a, b, c⟩ | ⟨v, hv, a, b, c, d⟩
  · rw [a, c]
    exact Or.inl ⟨rfl, rfl⟩
  · rw [a, b, c, Nat.add_sub_cancel]
    dsimp only
    rw [← z_letq ga gj (by omega), if_pos rfl]
    by_cases e : x_lb_letter ga gj v = 117
    · rw [if_pos e, if_pos e]
      exact Or.inl ⟨rfl, rfl⟩
    · rw [if_neg e, if_neg e]
      refine Or.inr ⟨rfl, ?_⟩
      have hb : z_bi (ga ||| gj) v = true := by
        cases q : z_bi (ga ||| gj) v with
        | true => rfl
        | false => exact absurd ((z_let117 ga gj (by omega)).mpr ((z_bit0 _ (by omega)).mpr q)) e
      show q_oI (.inl (gr v)) = _
      rw [l4 v hv hb]
      rfl
theorem p_acceptedCount : z_P_acceptedCount := by
  intro t hs se sf s s1 nx kp rw ic fi lc fl al cg sv ad ln lz ip ty ea fa co ro ht J
  refine ⟨?_, J.up⟩
  obtain ⟨l1, l2, l3, l4⟩ := z_labels J.1 J.2.1 co ro
  unfold x_am_acceptedCount x_mo_acceptedCount
  show z_bc (x_lb_give co s.1 s.2.2.2.2.2.1).1 = x_mo_size (x_mo_labelsAll al s.1 ro).1
  rw [l1]
  exact z_szbc J.1.1 (z_subL l3)
theorem p_undecidedCount : z_P_undecidedCount := by
  intro t hs se sf s s1 nx kp rw ic fi lc fl al cg sv ad ln lz ip ty ea fa co ro ht J
  refine ⟨?_, J.up⟩
  obtain ⟨l1, l2, l3, l4⟩ := z_labels J.1 J.2.1 co ro
  unfold x_am_undecidedCount x_mo_undecidedCount
  show nI s.1 - z_bc ((x_lb_give co s.1 s.2.2.2.2.2.1).1 ||| (x_lb_give co s.1 s.2.2.2.2.2.1).2.1) = nI s.1 - x_mo_size ((x_mo_labelsAll al s.1 ro).1 ||| (x_mo_labelsAll al s.1 ro).2.1)
  rw [l1, l2, z_szbc J.1.1 l3]
theorem z_cn8 (x : Int32) : z_cn x 8 ≤ 8 := z_cn_le x 8
theorem z_szcn : ∀ m, m < 256 → x_mo_size (nI m) = nI (z_cn (nI m) 8) := by decide +kernel
theorem z_fpF : ∀ m, m < 9 → ∀ n, n < 9 → n ≠ 0 → (FP.fdiv (FP.i2f (nI m)) (FP.i2f (nI n))) &&& 0x7fffffff ≤ 0x7f800000 ∧ (FP.f2d (FP.fdiv (FP.i2f (nI m)) (FP.i2f (nI n)))) &&& 0x7fffffffffffffff ≤ 0x7ff0000000000000 ∧ Op.cmpValue (FP.dcmp (FP.f2d (FP.fdiv (FP.i2f (nI m)) (FP.i2f (nI n)))) (FP.f2d (FP.fdiv (FP.i2f (nI m)) (FP.i2f (nI n))))) .l = 0 := by decide +kernel
theorem p_acceptedShare : z_P_acceptedShare := by
  intro t hs se sf s s1 nx kp rw ic fi lc fl al cg sv ad ln lz ip ty ea fa ca cj co ro ht J
  obtain ⟨l1, l2, l3, l4⟩ := z_labels J.1 J.2.1 co ro
  have h8 := J.1.1
  have e1 : (x_am_acceptedCount s.1 s.2.2.2.2.2.1 co).1 = x_mo_size (x_mo_labelsAll al s.1 ro).1 := by
    show z_bc (x_lb_give co s.1 s.2.2.2.2.2.1).1 = _
    rw [l1]
    exact z_szbc J.1.1 (z_subL l3)
  obtain ⟨m, hm, em⟩ := z_sub8 h8 (z_subL l3)
  have e2 : x_mo_size (x_mo_labelsAll al s.1 ro).1 = nI (z_cn (nI m) 8) := by
    rw [em]
    exact z_szcn m hm
  have hc := z_cn8 (nI m)
  have fp := fun h0 => z_fpF (z_cn (nI m) 8) (by omega) s.1 (by omega) h0
  have eA : (x_am_acceptedShare s.1 s.2.2.2.2.2.1 ca cj co).1 = if s.1 = 0 then .inr "java/lang/ArithmeticException" else .inl (FP.fdiv (FP.i2f (nI (z_cn (nI m) 8))) (FP.i2f (nI s.1))) := by
    rw [← e2, ← e1]
    unfold x_am_acceptedShare
    split <;> rfl
  have eM : ((x_mo_acceptedShare al ro s.1).1, (x_mo_acceptedShare al ro s.1).2.1) = if s.1 = 0 then (FP.fconst0, (1 : Int32)) else (FP.fdiv (FP.i2f (nI (z_cn (nI m) 8))) (FP.i2f (nI s.1)), 0) := by
    rw [← e2]
    unfold x_mo_acceptedShare
    by_cases h0 : s.1 = 0
    · rw [if_pos h0]
      dsimp only
      rw [if_pos (by omega)]
    · rw [if_neg h0]
      dsimp only
      rw [if_neg (by omega)]
  refine ⟨?_, ?_, ?_, ?_, J.up⟩
  · rw [e1, e2]
    exact fun h0 => (fp h0).1
  · rw [e2]
    exact fun h0 => (fp h0).1
  · intro v
    rw [eA]
    by_cases h0 : s.1 = 0
    · rw [if_pos h0]
      intro c
      cases c
    · rw [if_neg h0]
      intro c
      cases c
      exact (fp h0).2
  · rw [eA]
    have g1 := congrArg Prod.fst eM
    have g2 := congrArg Prod.snd eM
    dsimp only at g1 g2
    rw [g1, g2]
    by_cases h0 : s.1 = 0
    · rw [if_pos h0, if_pos h0]
      exact Or.inl ⟨rfl, rfl⟩
    · rw [if_neg h0, if_neg h0]
      exact Or.inr ⟨rfl, rfl⟩
theorem z_strb : ∀ w, w < 10 → ∀ a, a < 91 → ∃ m, m ≤ 9 ∧ (if (1 : Int32) ≤ nI w - nI a / 10 then nI w - nI a / 10 else 1) = nI m := by decide +kernel
theorem z_strB {B : Nat} {s : ZS} (W : z_wfB B s) {j : Nat} (hj : j < s.1) : ∃ m, m ≤ 9 ∧ x_st_strength s.2.2.1 s.2.2.2.1 j = nI m := by
  obtain ⟨w, w1, w2, e1⟩ := W.2.2.2.2.1 j hj
  obtain ⟨a, a1, e2⟩ := W.2.2.2.2.2.1 j hj
  unfold x_st_strength
  rw [e1, e2]
  exact z_strb w (by omega) a (by omega)
theorem z_mean4 {B : Nat} {al : Nat → Int32} {s : ZS} (W : z_wfB B s) (R : z_R al 0 s) : ∀ r k c, k + r = s.1 → c ≤ 9 * k → ∃ m, m ≤ 9 * s.1 ∧ x_am_meanStrength_25 s.2.2.1 s.2.2.2.1 r k (nI c) = nI m ∧ x_mo_meanStrength_4 al r k (nI c) = nI m := by
  intro r
  induction r with
  | zero =>
    intro k c hk hc
    exact ⟨c, by omega, rfl, rfl⟩
  | succ r ih =>
    intro k c hk hc
    obtain ⟨m, hm, e⟩ := z_strB W (by omega : k < s.1)
    have u1 : x_am_meanStrength_25 s.2.2.1 s.2.2.2.1 (r + 1) k (nI c) = x_am_meanStrength_25 s.2.2.1 s.2.2.2.1 r (k + 1) (nI c + x_st_strength s.2.2.1 s.2.2.2.1 k) := rfl
    have u2 : x_mo_meanStrength_4 al (r + 1) k (nI c) = x_mo_meanStrength_4 al r (k + 1) (nI c + x_mo_strength al k) := rfl
    rw [u1, u2, z_str R (by omega), e, nI_add]
    exact ih (k + 1) (c + m) (by omega) (by omega)
theorem z_fpD : ∀ m, m < 73 → ∀ n, n < 9 → n ≠ 0 → (FP.ddiv (FP.i2d (nI m)) (FP.i2d (nI n))) &&& 0x7fffffffffffffff ≤ 0x7ff0000000000000 := by decide +kernel
theorem p_meanStrength : z_P_meanStrength := by
  intro t hs se sf s s1 nx kp rw ic fi lc fl al cg sv ad ln lz ip ty ea fa ht J
  have h8 := J.1.1
  obtain ⟨m, hm, e1, e2⟩ := z_mean4 J.1 J.2.1 s.1 0 0 (by omega) (by omega)
  have e1 : x_am_meanStrength_25 s.2.2.1 s.2.2.2.1 s.1 0 0 = nI m := e1
  have e2 : x_mo_meanStrength_4 al s.1 0 0 = nI m := e2
  refine ⟨?_, ?_, ?_, J.up⟩
  · rw [e1]
    exact fun h0 => z_fpD m (by omega) s.1 (by omega) h0
  · rw [e2]
    exact fun h0 => z_fpD m (by omega) s.1 (by omega) h0
  · unfold x_am_meanStrength x_mo_meanStrength
    rw [e1, e2]
    by_cases h0 : s.1 = 0
    · rw [if_pos h0, if_pos (by omega)]
      exact Or.inl ⟨rfl, rfl⟩
    · rw [if_neg h0, if_neg (by omega)]
      exact Or.inr ⟨rfl, rfl⟩
