theorem z_ctU {tg : Nat → Int32} {v : Nat} {y : Int32} : ∀ n, v < n → z_ct (upd tg v y) n + z_cn (tg v) 8 = z_ct tg n + z_cn y 8 := by
  intro n
  induction n with
  | zero =>
    intro h
    omega
  | succ n ih =>
    intro h
    show z_ct (upd tg v y) n + z_cn (upd tg v y n) 8 + z_cn (tg v) 8 = z_ct tg n + z_cn (tg n) 8 + z_cn y 8
    by_cases e : v = n
    · subst e
      rw [upd_eq, z_ctC (tg := tg) v (fun i hi => upd_ne (by omega))]
      omega
    · rw [upd_ne (fun c => e c.symm)]
      have := ih (by omega)
      omega
theorem z_cnOr : ∀ m, m < 256 → ∀ b, b < 8 → z_cn (nI m ||| ((1 : Int32) <<< ((nI b) &&& 31))) 8 ≤ z_cn (nI m) 8 + 1 := by decide +kernel
theorem z_cnClr {x : Int32} {b : Nat} (hb : b < 8) : z_cn (x &&& (((1 : Int32) <<< ((nI b) &&& 31)) ^^^ (-1 : Int32))) 8 ≤ z_cn x 8 := z_cn_mono 8 (fun j hj q => by
  rw [z_bi_clr (by omega) (by omega), Bool.and_eq_true] at q
  exact q.1)
theorem z_clrI {n m b : Nat} (hn : n ≤ 8) (hm : m < 2 ^ n) (hb : b < 8) : ∃ m', m' < 2 ^ n ∧ nI m &&& (((1 : Int32) <<< ((nI b) &&& 31)) ^^^ (-1 : Int32)) = nI m' := by
  have h8 : (2 : Nat) ^ n ≤ 256 := Nat.pow_le_pow_right (n := 2) (by omega) hn
  refine ⟨m &&& (2 ^ 8 - (2 ^ b + 1)), Nat.lt_of_le_of_lt Nat.and_le_left hm, ?_⟩
  have hb8 : (2 : Nat) ^ b < 2 ^ 8 := Nat.pow_lt_pow_right (by omega) hb
  refine z_bi_ext fun j hj => ?_
  rw [z_bi_clr (by omega) hj, z_bitb hj, z_bitb hj, Nat.testBit_and, Nat.testBit_two_pow_sub_succ hb8, Nat.testBit_two_pow]
  cases q : m.testBit j with
  | false => simp
  | true =>
    have := z_bitlt hm q
    rw [decide_eq_true (by omega : j < 8)]
    by_cases e : j = b
    · rw [decide_eq_true e, decide_eq_true e.symm]
      rfl
    · rw [decide_eq_false e, decide_eq_false (fun c => e c.symm)]
      rfl
theorem z_atkE {B : Nat} {al : Nat → Int32} {s : ZS} (W : z_wfB B s) (R : z_R al 0 s) : x_mo_attacks al s.1 = x_st_countAttacks s.1 s.2.2.2.2.1 := z_atk (fun j hj => ⟨R.tg hj, W.tg hj⟩)
theorem o_weigh {B : Nat} {al : Nat → Int32} {s : ZS} (W : z_wfB B s) (R : z_R al 0 s) (rs xid xw : Int32) : z_op B al s (x_mo_weighs al rs s.1 xid xw).1 (x_mo_weighs al rs s.1 xid xw).2.1 (x_mo_weighs al rs s.1 xid xw).2.2 (x_apply 4 xid xw s).1 (x_apply 4 xid xw s).2 ∧ (x_mo_weighs al rs s.1 xid xw).1 ≠ 2 := by
  have W0 := W
  have R0 := R
  obtain ⟨n, id, wt, ag, tg, att, ni, dy, mn, mv, en, wo, br⟩ := s
  obtain ⟨w1, w2, ⟨k, k1, k2, k3⟩, w4, w5, w6, w7, w8, w9, w10⟩ := W
  dsimp only at w1 w2 k2 k3 w4 w5 w6 w7 w8 w9 w10
  obtain ⟨r0, r1, r2, r3, r4, r5, r6, r7, r8⟩ := R
  simp only [Nat.zero_add] at r0 r1 r2 r3 r4 r5 r6 r7 r8
  rcases z_find R0 xid with ⟨a, b, c⟩ | ⟨v, hv, a, b, c, d⟩
  · dsimp only at a b c
    have e1 : x_mo_weighs al rs n xid xw = (3, al, rs) := by
      unfold x_mo_weighs
      rw [a]
      rfl
    have e2 : x_apply 4 xid xw (n, id, wt, ag, tg, att, ni, dy, mn, mv, en, wo, br) = (.inr "java/util/NoSuchElementException", (n, id, wt, ag, tg, att, ni, dy, mn, mv, en, wo, br)) := by
      simp only [x_apply, x_st_apply4, x_st_weigh, c]
    rw [e1, e2]
    exact ⟨Or.inr (Or.inr (Or.inr ⟨rfl, rfl, rfl, rfl⟩)), (by decide : (3 : Int32) ≠ 2)⟩
  · dsimp only at hv a b c d
    rcases z_wgt (x := xw) with ⟨q1, q2, mw, mw1, mw2, rfl⟩ | ⟨q1, q2⟩
    · have e1 : x_mo_weighs al rs n xid (nI mw) = (0, upd al (7 + (3 * v) + 1) (nI mw), wt v) := by
        unfold x_mo_weighs
        rw [b, a, q1, Nat.add_sub_cancel, (r7 v hv).2.1]
        rfl
      have e2 : x_apply 4 xid (nI mw) (n, id, wt, ag, tg, att, ni, dy, mn, mv, en, wo, br) = (.inl (wt v), (n, id, upd wt v (nI mw), ag, tg, (x_st_findAttackers n (upd wt v (nI mw)) ag tg att).2, ni, dy, mn, mv, en, wo, br)) := by
        simp only [x_apply, x_st_apply4, x_st_weigh, c, q2]
      rw [e1, e2]
      refine ⟨Or.inl ⟨rfl, rfl, ?_, ?_, fun i hi => upd_ne (by omega)⟩, (by decide : (0 : Int32) ≠ 2)⟩
      · dsimp only
        unfold z_R
        simp only [Nat.zero_add]
        refine ⟨(upd_ne (by omega)).trans r0, (upd_ne (by omega)).trans r1, (upd_ne (by omega)).trans r2, (upd_ne (by omega)).trans r3, (upd_ne (by omega)).trans r4, (upd_ne (by omega)).trans r5, (upd_ne (by omega)).trans r6, fun j hj => ⟨?_, ?_, ?_, ?_⟩, fun p hp => (upd_ne (by omega)).trans (r8 p hp)⟩
        · exact (upd_ne (by omega)).trans (r7 j hj).1
        · by_cases e : j = v
          · subst e
            rw [upd_eq, upd_eq]
          · rw [upd_ne (by omega), upd_ne e]
            exact (r7 j hj).2.1
        · exact (upd_ne (by omega)).trans (r7 j hj).2.2.1
        · exact (upd_ne (by omega)).trans (r7 j hj).2.2.2
      · dsimp only
        refine ⟨w1, w2, ⟨k, by omega, k2, k3⟩, w4, ?_, w6, w7, fun j hj => z_fa5 hj, w9, w10⟩
        · intro j hj
          show ∃ m, 1 ≤ m ∧ m ≤ 9 ∧ upd wt v (nI mw) j = nI m
          by_cases e : j = v
          · rw [e, upd_eq]
            exact ⟨mw, mw1, mw2, rfl⟩
          · rw [upd_ne e]
            exact w5 j hj
    · have e1 : x_mo_weighs al rs n xid xw = (1, al, rs) := by
        unfold x_mo_weighs
        rw [b, q1]
        rfl
      have e2 : x_apply 4 xid xw (n, id, wt, ag, tg, att, ni, dy, mn, mv, en, wo, br) = (.inr "java/lang/IllegalArgumentException", (n, id, wt, ag, tg, att, ni, dy, mn, mv, en, wo, br)) := by
        simp only [x_apply, x_st_apply4, x_st_weigh, c, q2]
      rw [e1, e2]
      exact ⟨Or.inr (Or.inl ⟨rfl, rfl, rfl, rfl⟩), (by decide : (1 : Int32) ≠ 2)⟩
theorem o_renew {B : Nat} {al : Nat → Int32} {s : ZS} (W : z_wfB B s) (R : z_R al 0 s) (rs xid xb : Int32) : z_op B al s (x_mo_renews al rs s.1 xid).1 (x_mo_renews al rs s.1 xid).2.1 (x_mo_renews al rs s.1 xid).2.2 (x_apply 5 xid xb s).1 (x_apply 5 xid xb s).2 ∧ (x_mo_renews al rs s.1 xid).1 ≠ 1 ∧ (x_mo_renews al rs s.1 xid).1 ≠ 2 := by
  have W0 := W
  have R0 := R
  obtain ⟨n, id, wt, ag, tg, att, ni, dy, mn, mv, en, wo, br⟩ := s
  obtain ⟨w1, w2, ⟨k, k1, k2, k3⟩, w4, w5, w6, w7, w8, w9, w10⟩ := W
  dsimp only at w1 w2 k2 k3 w4 w5 w6 w7 w8 w9 w10
  obtain ⟨r0, r1, r2, r3, r4, r5, r6, r7, r8⟩ := R
  simp only [Nat.zero_add] at r0 r1 r2 r3 r4 r5 r6 r7 r8
  rcases z_find R0 xid with ⟨a, b, c⟩ | ⟨v, hv, a, b, c, d⟩
  · dsimp only at a b c
    have e1 : x_mo_renews al rs n xid = (3, al, rs) := by
      unfold x_mo_renews
      rw [a]
      rfl
    have e2 : x_apply 5 xid xb (n, id, wt, ag, tg, att, ni, dy, mn, mv, en, wo, br) = (.inr "java/util/NoSuchElementException", (n, id, wt, ag, tg, att, ni, dy, mn, mv, en, wo, br)) := by
      simp only [x_apply, x_st_apply5, x_st_makeNew, c]
    rw [e1, e2]
    exact ⟨Or.inr (Or.inr (Or.inr ⟨rfl, rfl, rfl, rfl⟩)), (by decide : (3 : Int32) ≠ 1), (by decide : (3 : Int32) ≠ 2)⟩
  · dsimp only at hv a b c d
    have e1 : x_mo_renews al rs n xid = (0, upd al (7 + (3 * v) + 2) 0, ag v) := by
      unfold x_mo_renews
      rw [b, a, Nat.add_sub_cancel, (r7 v hv).2.2.1]
      rfl
    have e2 : x_apply 5 xid xb (n, id, wt, ag, tg, att, ni, dy, mn, mv, en, wo, br) = (.inl (ag v), (n, id, wt, upd ag v 0, tg, (x_st_findAttackers n wt (upd ag v 0) tg att).2, ni, dy, mn, mv, en, wo, br)) := by
      simp only [x_apply, x_st_apply5, x_st_makeNew, c]
    rw [e1, e2]
    refine ⟨Or.inl ⟨rfl, rfl, ?_, ?_, fun i hi => upd_ne (by omega)⟩, (by decide : (0 : Int32) ≠ 1), (by decide : (0 : Int32) ≠ 2)⟩
    · dsimp only
      unfold z_R
      simp only [Nat.zero_add]
      refine ⟨(upd_ne (by omega)).trans r0, (upd_ne (by omega)).trans r1, (upd_ne (by omega)).trans r2, (upd_ne (by omega)).trans r3, (upd_ne (by omega)).trans r4, (upd_ne (by omega)).trans r5, (upd_ne (by omega)).trans r6, fun j hj => ⟨?_, ?_, ?_, ?_⟩, fun p hp => (upd_ne (by omega)).trans (r8 p hp)⟩
      · exact (upd_ne (by omega)).trans (r7 j hj).1
      · exact (upd_ne (by omega)).trans (r7 j hj).2.1
      · by_cases e : j = v
        · subst e
          rw [upd_eq, upd_eq]
        · rw [upd_ne (by omega), upd_ne e]
          exact (r7 j hj).2.2.1
      · exact (upd_ne (by omega)).trans (r7 j hj).2.2.2
    · dsimp only
      refine ⟨w1, w2, ⟨k, by omega, k2, k3⟩, w4, w5, ?_, w7, fun j hj => z_fa5 hj, w9, w10⟩
      · intro j hj
        show ∃ m, m ≤ 90 ∧ upd ag v 0 j = nI m
        by_cases e : j = v
        · rw [e, upd_eq]
          exact ⟨0, by omega, rfl⟩
        · rw [upd_ne e]
          exact w6 j hj
theorem o_yields {B : Nat} {al : Nat → Int32} {s : ZS} (W : z_wfB B s) (R : z_R al 0 s) (rs xf xt : Int32) : z_op B al s (x_mo_yields al rs s.1 xf xt).1 (x_mo_yields al rs s.1 xf xt).2.1 (x_mo_yields al rs s.1 xf xt).2.2 (x_apply 3 xf xt s).1 (x_apply 3 xf xt s).2 ∧ (x_mo_yields al rs s.1 xf xt).1 ≠ 1 ∧ (x_mo_yields al rs s.1 xf xt).1 ≠ 2 := by
  have W0 := W
  have R0 := R
  obtain ⟨n, id, wt, ag, tg, att, ni, dy, mn, mv, en, wo, br⟩ := s
  obtain ⟨w1, w2, ⟨k, k1, k2, k3⟩, w4, w5, w6, w7, w8, w9, w10⟩ := W
  dsimp only at w1 w2 k2 k3 w4 w5 w6 w7 w8 w9 w10
  obtain ⟨r0, r1, r2, r3, r4, r5, r6, r7, r8⟩ := R
  simp only [Nat.zero_add] at r0 r1 r2 r3 r4 r5 r6 r7 r8
  rcases z_find R0 xf with ⟨a, b, c⟩ | ⟨v, hv, a, b, c, d⟩
  · dsimp only at a b c
    have e1 : x_mo_yields al rs n xf xt = (3, al, rs) := by
      unfold x_mo_yields
      rw [a]
      rfl
    have e2 : x_apply 3 xf xt (n, id, wt, ag, tg, att, ni, dy, mn, mv, en, wo, br) = (.inr "java/util/NoSuchElementException", (n, id, wt, ag, tg, att, ni, dy, mn, mv, en, wo, br)) := by
      simp only [x_apply, x_st_apply3, x_st_yieldAttack, c]
    rw [e1, e2]
    exact ⟨Or.inr (Or.inr (Or.inr ⟨rfl, rfl, rfl, rfl⟩)), (by decide : (3 : Int32) ≠ 1), (by decide : (3 : Int32) ≠ 2)⟩
  · dsimp only at hv a b c d
    rcases z_find R0 xt with ⟨a2, b2, c2⟩ | ⟨v2, hv2, a2, b2, c2, d2⟩
    · dsimp only at a2 b2 c2
      have e1 : x_mo_yields al rs n xf xt = (3, al, rs) := by
        unfold x_mo_yields
        rw [b, a2]
        rfl
      have e2 : x_apply 3 xf xt (n, id, wt, ag, tg, att, ni, dy, mn, mv, en, wo, br) = (.inr "java/util/NoSuchElementException", (n, id, wt, ag, tg, att, ni, dy, mn, mv, en, wo, br)) := by
        simp only [x_apply, x_st_apply3, x_st_yieldAttack, c, c2]
      rw [e1, e2]
      exact ⟨Or.inr (Or.inr (Or.inr ⟨rfl, rfl, rfl, rfl⟩)), (by decide : (3 : Int32) ≠ 1), (by decide : (3 : Int32) ≠ 2)⟩
    · dsimp only at hv2 a2 b2 c2 d2
      have hAt : x_mo_isAttack al v v2 = z_has (tg v) v2 := z_isAtt R0 (i := v) (j := v2) hv (by omega)
      cases q : z_has (tg v) v2 with
      | false =>
        have e1 : x_mo_yields al rs n xf xt = (3, al, rs) := by
          unfold x_mo_yields
          rw [b, b2, a, a2, Nat.add_sub_cancel, Nat.add_sub_cancel, hAt, q]
          rfl
        have e2 : x_apply 3 xf xt (n, id, wt, ag, tg, att, ni, dy, mn, mv, en, wo, br) = (.inr "java/util/NoSuchElementException", (n, id, wt, ag, tg, att, ni, dy, mn, mv, en, wo, br)) := by
          simp only [x_apply, x_st_apply3, x_st_yieldAttack, c, c2, q]
          rfl
        rw [e1, e2]
        exact ⟨Or.inr (Or.inr (Or.inr ⟨rfl, rfl, rfl, rfl⟩)), (by decide : (3 : Int32) ≠ 1), (by decide : (3 : Int32) ≠ 2)⟩
      | true =>
        have e1 : x_mo_yields al rs n xf xt = (0, upd al (31 + v) (tg v &&& (((1 : Int32) <<< ((nI v2) &&& 31)) ^^^ (-1 : Int32))), x_mo_attacks (upd al (31 + v) (tg v &&& (((1 : Int32) <<< ((nI v2) &&& 31)) ^^^ (-1 : Int32)))) n) := by
          unfold x_mo_yields
          rw [b, b2, a, a2, Nat.add_sub_cancel, Nat.add_sub_cancel, hAt, q, (r7 v hv).2.2.2]
          rfl
        have e2 : x_apply 3 xf xt (n, id, wt, ag, tg, att, ni, dy, mn, mv, en, wo, br) = (.inl (x_st_countAttacks n (upd tg v (tg v &&& (((1 : Int32) <<< ((nI v2) &&& 31)) ^^^ (-1 : Int32))))), (n, id, wt, ag, upd tg v (tg v &&& (((1 : Int32) <<< ((nI v2) &&& 31)) ^^^ (-1 : Int32))), (x_st_findAttackers n wt ag (upd tg v (tg v &&& (((1 : Int32) <<< ((nI v2) &&& 31)) ^^^ (-1 : Int32)))) att).2, ni, dy, mn, mv, en, wo, br)) := by
          simp only [x_apply, x_st_apply3, x_st_yieldAttack, c, c2, q, if_true]
        have R2 : z_R (upd al (31 + v) (tg v &&& (((1 : Int32) <<< ((nI v2) &&& 31)) ^^^ (-1 : Int32)))) 0 (n, id, wt, ag, upd tg v (tg v &&& (((1 : Int32) <<< ((nI v2) &&& 31)) ^^^ (-1 : Int32))), (x_st_findAttackers n wt ag (upd tg v (tg v &&& (((1 : Int32) <<< ((nI v2) &&& 31)) ^^^ (-1 : Int32)))) att).2, ni, dy, mn, mv, en, wo, br) := by
          unfold z_R
          simp only [Nat.zero_add]
          refine ⟨(upd_ne (by omega)).trans r0, (upd_ne (by omega)).trans r1, (upd_ne (by omega)).trans r2, (upd_ne (by omega)).trans r3, (upd_ne (by omega)).trans r4, (upd_ne (by omega)).trans r5, (upd_ne (by omega)).trans r6, fun j hj => ⟨?_, ?_, ?_, ?_⟩, fun p hp => (upd_ne (by omega)).trans (r8 p hp)⟩
          · exact (upd_ne (by omega)).trans (r7 j hj).1
          · exact (upd_ne (by omega)).trans (r7 j hj).2.1
          · exact (upd_ne (by omega)).trans (r7 j hj).2.2.1
          · by_cases e : j = v
            · subst e
              rw [upd_eq, upd_eq]
            · rw [upd_ne (by omega), upd_ne e]
              exact (r7 j hj).2.2.2
        have W2 : z_wfB (B + 1) (n, id, wt, ag, upd tg v (tg v &&& (((1 : Int32) <<< ((nI v2) &&& 31)) ^^^ (-1 : Int32))), (x_st_findAttackers n wt ag (upd tg v (tg v &&& (((1 : Int32) <<< ((nI v2) &&& 31)) ^^^ (-1 : Int32)))) att).2, ni, dy, mn, mv, en, wo, br) := by
          refine ⟨w1, w2, ⟨k, by omega, k2, k3⟩, w4, w5, w6, ?_, fun j hj => z_fa5 hj, w9, ?_⟩
          · intro j hj
            show ∃ m, m < 2 ^ n ∧ upd tg v (tg v &&& (((1 : Int32) <<< ((nI v2) &&& 31)) ^^^ (-1 : Int32))) j = nI m
            by_cases e : j = v
            · rw [e, upd_eq]
              obtain ⟨m, hm, em⟩ := w7 v hv
              rw [em]
              exact z_clrI w1 hm (by omega)
            · rw [upd_ne e]
              exact w7 j hj
          · show z_ct (upd tg v (tg v &&& (((1 : Int32) <<< ((nI v2) &&& 31)) ^^^ (-1 : Int32)))) n ≤ 20
            have h1 := z_ctU (tg := tg) (v := v) (y := (tg v &&& (((1 : Int32) <<< ((nI v2) &&& 31)) ^^^ (-1 : Int32)))) n hv
            have h2 := z_cnClr (x := tg v) (b := v2) (by omega)
            omega
        rw [e1, e2]
        refine ⟨Or.inl ⟨rfl, ?_, R2, W2, fun i hi => upd_ne (by omega)⟩, (by decide : (0 : Int32) ≠ 1), (by decide : (0 : Int32) ≠ 2)⟩
        exact congrArg Sum.inl (z_atkE W2 R2).symm
theorem o_leads {B : Nat} {al : Nat → Int32} {s : ZS} (W : z_wfB B s) (R : z_R al 0 s) (rs xf xt : Int32) : z_op B al s (x_mo_leads al rs s.1 xf xt).1 (x_mo_leads al rs s.1 xf xt).2.1 (x_mo_leads al rs s.1 xf xt).2.2 (x_apply 2 xf xt s).1 (x_apply 2 xf xt s).2 := by
  have W0 := W
  have R0 := R
  obtain ⟨n, id, wt, ag, tg, att, ni, dy, mn, mv, en, wo, br⟩ := s
  obtain ⟨w1, w2, ⟨k, k1, k2, k3⟩, w4, w5, w6, w7, w8, w9, w10⟩ := W
  dsimp only at w1 w2 k2 k3 w4 w5 w6 w7 w8 w9 w10
  obtain ⟨r0, r1, r2, r3, r4, r5, r6, r7, r8⟩ := R
  simp only [Nat.zero_add] at r0 r1 r2 r3 r4 r5 r6 r7 r8
  rcases z_find R0 xf with ⟨a, b, c⟩ | ⟨v, hv, a, b, c, d⟩
  · dsimp only at a b c
    have e1 : x_mo_leads al rs n xf xt = (3, al, rs) := by
      unfold x_mo_leads
      rw [a]
      rfl
    have e2 : x_apply 2 xf xt (n, id, wt, ag, tg, att, ni, dy, mn, mv, en, wo, br) = (.inr "java/util/NoSuchElementException", (n, id, wt, ag, tg, att, ni, dy, mn, mv, en, wo, br)) := by
      simp only [x_apply, x_st_apply2, x_st_attack, c]
    rw [e1, e2]
    exact (Or.inr (Or.inr (Or.inr ⟨rfl, rfl, rfl, rfl⟩)))
  · dsimp only at hv a b c d
    rcases z_find R0 xt with ⟨a2, b2, c2⟩ | ⟨v2, hv2, a2, b2, c2, d2⟩
    · dsimp only at a2 b2 c2
      have e1 : x_mo_leads al rs n xf xt = (3, al, rs) := by
        unfold x_mo_leads
        rw [b, a2]
        rfl
      have e2 : x_apply 2 xf xt (n, id, wt, ag, tg, att, ni, dy, mn, mv, en, wo, br) = (.inr "java/util/NoSuchElementException", (n, id, wt, ag, tg, att, ni, dy, mn, mv, en, wo, br)) := by
        simp only [x_apply, x_st_apply2, x_st_attack, c, c2]
      rw [e1, e2]
      exact (Or.inr (Or.inr (Or.inr ⟨rfl, rfl, rfl, rfl⟩)))
    · dsimp only at hv2 a2 b2 c2 d2
      have hAt : x_mo_isAttack al v v2 = z_has (tg v) v2 := z_isAtt R0 (i := v) (j := v2) hv (by omega)
      by_cases hxx : xf = xt
      · have evv : v = v2 := by
          subst hxx
          rw [a] at a2
          omega
        have e1 : x_mo_leads al rs n xf xt = (1, al, rs) := by
          unfold x_mo_leads
          rw [b, b2, if_pos hxx]
          rfl
        have e2 : x_apply 2 xf xt (n, id, wt, ag, tg, att, ni, dy, mn, mv, en, wo, br) = (.inr "java/lang/IllegalArgumentException", (n, id, wt, ag, tg, att, ni, dy, mn, mv, en, wo, br)) := by
          simp only [x_apply, x_st_apply2, x_st_attack, c, c2, if_pos evv]
        rw [e1, e2]
        exact Or.inr (Or.inl ⟨rfl, rfl, rfl, rfl⟩)
      · have nvv : ¬ v = v2 := fun z => hxx (by rw [← d, ← d2, z])
        cases q : z_has (tg v) v2 with
        | true =>
          have e1 : x_mo_leads al rs n xf xt = (2, al, rs) := by
            unfold x_mo_leads
            rw [b, b2, if_neg hxx, a, a2, Nat.add_sub_cancel, Nat.add_sub_cancel, hAt, q]
            rfl
          have e2 : x_apply 2 xf xt (n, id, wt, ag, tg, att, ni, dy, mn, mv, en, wo, br) = (.inr "java/lang/IllegalStateException", (n, id, wt, ag, tg, att, ni, dy, mn, mv, en, wo, br)) := by
            simp only [x_apply, x_st_apply2, x_st_attack, c, c2, if_neg nvv, q]
            rfl
          rw [e1, e2]
          exact Or.inr (Or.inr (Or.inl ⟨rfl, rfl, rfl, rfl⟩))
        | false =>
          have hcA : x_mo_attacks al n = x_st_countAttacks n tg := z_atkE W0 R0
          have hcB : x_st_countAttacks n tg = nI (z_ct tg n) := z_cntA (fun j hj => W0.tg hj)
          by_cases h20 : z_ct tg n = 20
          · have hA20 : x_mo_attacks al n = 20 := by
              rw [hcA, hcB, h20]
              rfl
            have e1 : x_mo_leads al rs n xf xt = (2, al, rs) := by
              unfold x_mo_leads
              rw [b, b2, if_neg hxx, a, a2, Nat.add_sub_cancel, Nat.add_sub_cancel, hAt, q, if_pos hA20]
              rfl
            have hB20 : ¬ x_st_countAttacks n tg < 20 := by
              rw [hcB, h20]
              decide
            have e2 : x_apply 2 xf xt (n, id, wt, ag, tg, att, ni, dy, mn, mv, en, wo, br) = (.inr "java/lang/IllegalStateException", (n, id, wt, ag, tg, att, ni, dy, mn, mv, en, wo, br)) := by
              simp only [x_apply, x_st_apply2, x_st_attack, c, c2, if_neg nvv, q, if_neg hB20]
              rfl
            rw [e1, e2]
            exact Or.inr (Or.inr (Or.inl ⟨rfl, rfl, rfl, rfl⟩))
          · have hA20 : ¬ x_mo_attacks al n = 20 := by
              rw [hcA, hcB]
              intro z
              exact h20 ((nI_eq (b := 20) (by omega) (by omega)).mp z)
            have e1 : x_mo_leads al rs n xf xt = (0, upd al (31 + v) (tg v ||| ((1 : Int32) <<< ((nI v2) &&& 31))), x_mo_attacks (upd al (31 + v) (tg v ||| ((1 : Int32) <<< ((nI v2) &&& 31)))) n) := by
              unfold x_mo_leads
              rw [b, b2, if_neg hxx, a, a2, Nat.add_sub_cancel, Nat.add_sub_cancel, hAt, q, if_neg hA20, (r7 v hv).2.2.2]
              rfl
            have hB20 : x_st_countAttacks n tg < 20 := by
              rw [hcB]
              exact (nI_ltI (b := 20) (by omega) (by omega)).mpr (by omega)
            have e2 : x_apply 2 xf xt (n, id, wt, ag, tg, att, ni, dy, mn, mv, en, wo, br) = (.inl (x_st_countAttacks n (upd tg v (tg v ||| ((1 : Int32) <<< ((nI v2) &&& 31))))), (n, id, wt, ag, upd tg v (tg v ||| ((1 : Int32) <<< ((nI v2) &&& 31))), (x_st_findAttackers n wt ag (upd tg v (tg v ||| ((1 : Int32) <<< ((nI v2) &&& 31)))) att).2, ni, dy, mn, mv, en, wo, br)) := by
              simp only [x_apply, x_st_apply2, x_st_attack, c, c2, if_neg nvv, q, if_pos hB20]
              rfl
            have R2 : z_R (upd al (31 + v) (tg v ||| ((1 : Int32) <<< ((nI v2) &&& 31)))) 0 (n, id, wt, ag, upd tg v (tg v ||| ((1 : Int32) <<< ((nI v2) &&& 31))), (x_st_findAttackers n wt ag (upd tg v (tg v ||| ((1 : Int32) <<< ((nI v2) &&& 31)))) att).2, ni, dy, mn, mv, en, wo, br) := by
              unfold z_R
              simp only [Nat.zero_add]
              refine ⟨(upd_ne (by omega)).trans r0, (upd_ne (by omega)).trans r1, (upd_ne (by omega)).trans r2, (upd_ne (by omega)).trans r3, (upd_ne (by omega)).trans r4, (upd_ne (by omega)).trans r5, (upd_ne (by omega)).trans r6, fun j hj => ⟨?_, ?_, ?_, ?_⟩, fun p hp => (upd_ne (by omega)).trans (r8 p hp)⟩
              · exact (upd_ne (by omega)).trans (r7 j hj).1
              · exact (upd_ne (by omega)).trans (r7 j hj).2.1
              · exact (upd_ne (by omega)).trans (r7 j hj).2.2.1
              · by_cases e : j = v
                · subst e
                  rw [upd_eq, upd_eq]
                · rw [upd_ne (by omega), upd_ne e]
                  exact (r7 j hj).2.2.2
            have W2 : z_wfB (B + 1) (n, id, wt, ag, upd tg v (tg v ||| ((1 : Int32) <<< ((nI v2) &&& 31))), (x_st_findAttackers n wt ag (upd tg v (tg v ||| ((1 : Int32) <<< ((nI v2) &&& 31)))) att).2, ni, dy, mn, mv, en, wo, br) := by
              refine ⟨w1, w2, ⟨k, by omega, k2, k3⟩, w4, w5, w6, ?_, fun j hj => z_fa5 hj, w9, ?_⟩
              · intro j hj
                show ∃ m, m < 2 ^ n ∧ upd tg v (tg v ||| ((1 : Int32) <<< ((nI v2) &&& 31))) j = nI m
                by_cases e : j = v
                · rw [e, upd_eq]
                  obtain ⟨m, hm, em⟩ := w7 v hv
                  rw [em, z_sh1 v2 (by omega), nI_or]
                  exact ⟨m ||| 2 ^ v2, Nat.or_lt_two_pow hm (Nat.pow_lt_pow_right (by omega) hv2), rfl⟩
                · rw [upd_ne e]
                  exact w7 j hj
              · show z_ct (upd tg v (tg v ||| ((1 : Int32) <<< ((nI v2) &&& 31)))) n ≤ 20
                have h1 := z_ctU (tg := tg) (v := v) (y := (tg v ||| ((1 : Int32) <<< ((nI v2) &&& 31)))) n hv
                obtain ⟨m, hm, em⟩ := W0.tg hv
                have em : tg v = nI m := em
                have h2 := z_cnOr m hm v2 (by omega)
                rw [em] at h1
                rw [em]
                omega
            rw [e1, e2]
            refine Or.inl ⟨rfl, ?_, R2, W2, fun i hi => upd_ne (by omega)⟩
            exact congrArg Sum.inl (z_atkE W2 R2).symm
