theorem o_claim {B : Nat} {al : Nat → Int32} {s : ZS} (W : z_wfB B s) (R : z_R al 0 s) (rs xid xb : Int32) : z_op B al s (x_mo_claims al rs s.1 s.2.2.2.2.2.2.2.2.1 xid).1 (x_mo_claims al rs s.1 s.2.2.2.2.2.2.2.2.1 xid).2.1 (x_mo_claims al rs s.1 s.2.2.2.2.2.2.2.2.1 xid).2.2.1 (x_apply 6 xid xb s).1 (x_apply 6 xid xb s).2 ∧ (x_mo_claims al rs s.1 s.2.2.2.2.2.2.2.2.1 xid).1 ≠ 1 ∧ (x_mo_claims al rs s.1 s.2.2.2.2.2.2.2.2.1 xid).2.2.2 = (x_apply 6 xid xb s).2.2.2.2.2.2.2.2.2.1 := by
  have W0 := W
  have R0 := R
  obtain ⟨n, id, wt, ag, tg, att, ni, dy, mn, mv, en, wo, br⟩ := s
  obtain ⟨w1, w2, ⟨k, k1, k2, k3⟩, w4, w5, w6, w7, w8, w9, w10⟩ := W
  dsimp only at w1 w2 k2 k3 w4 w5 w6 w7 w8 w9 w10
  obtain ⟨r0, r1, r2, r3, r4, r5, r6, r7, r8⟩ := R
  simp only [Nat.zero_add] at r0 r1 r2 r3 r4 r5 r6 r7 r8
  rcases z_find R0 xid with ⟨a, b, c⟩ | ⟨v, hv, a, b, c, d⟩
  · dsimp only at a b c
    have e1 : x_mo_claims al rs n mn xid = (3, al, rs, mn) := by
      unfold x_mo_claims
      rw [a]
      rfl
    have e2 : x_apply 6 xid xb (n, id, wt, ag, tg, att, ni, dy, mn, mv, en, wo, br) = (.inr "java/util/NoSuchElementException", (n, id, wt, ag, tg, att, ni, dy, mn, mv, en, wo, br)) := by
      simp only [x_apply, x_st_apply6, x_st_claim, c]
    rw [e1, e2]
    exact ⟨Or.inr (Or.inr (Or.inr ⟨rfl, rfl, rfl, rfl⟩)), (by decide : (3 : Int32) ≠ 1), rfl⟩
  · dsimp only at hv a b c d
    by_cases hm : mn = 0
    · subst hm
      have e1 : x_mo_claims al rs n 0 xid = (0, (upd (upd al 39 xid) 3 1), x_mo_size (x_mo_attackers (upd (upd al 39 xid) 3 1) n v), 1) := by
        unfold x_mo_claims
        rw [b, a, Nat.add_sub_cancel]
        rfl
      have e2 : x_apply 6 xid xb (n, id, wt, ag, tg, att, ni, dy, 0, mv, en, wo, br) = (.inl (z_bc (att v)), (n, id, wt, ag, tg, att, ni, dy, 1, upd mv 0 xid, en, wo, br)) := by
        simp only [x_apply, x_st_apply6, x_st_claim, c, x_dl_isHeld, x_dl_add, x_dl_isFull]
        rfl
      have R2 : z_R (upd (upd al 39 xid) 3 1) 0 (n, id, wt, ag, tg, att, ni, dy, 1, upd mv 0 xid, en, wo, br) := by
        unfold z_R
        simp only [Nat.zero_add]
        have u : ∀ i, i ≠ 39 → i ≠ 3 → (upd (upd al 39 xid) 3 1) i = al i := fun i h1 h2 => (upd_ne h2).trans (upd_ne h1)
        refine ⟨(u _ (by omega) (by omega)).trans r0, (u _ (by omega) (by omega)).trans r1, (u _ (by omega) (by omega)).trans r2, upd_eq, (u _ (by omega) (by omega)).trans r4, (u _ (by omega) (by omega)).trans r5, (u _ (by omega) (by omega)).trans r6, fun j hj => ⟨(u _ (by omega) (by omega)).trans (r7 j hj).1, (u _ (by omega) (by omega)).trans (r7 j hj).2.1, (u _ (by omega) (by omega)).trans (r7 j hj).2.2.1, (u _ (by omega) (by omega)).trans (r7 j hj).2.2.2⟩, fun p hp => ?_⟩
        have e : p = 0 := by omega
        subst e
        rw [upd_ne (by omega), upd_eq]
        exact upd_eq.symm
      have W2 : z_wfB (B + 1) (n, id, wt, ag, tg, att, ni, dy, 1, upd mv 0 xid, en, wo, br) := by
        refine ⟨w1, (by show 1 ≤ 12; omega), ⟨k, by omega, k2, k3⟩, w4, w5, w6, w7, w8, fun p hp => ⟨v, hv, ?_⟩, w10⟩
        have hp : p < 1 := hp
        have e : p = 0 := by omega
        subst e
        exact (show upd mv 0 xid 0 = id v from upd_eq.trans d.symm)
      rw [e1, e2]
      refine ⟨Or.inl ⟨rfl, ?_, R2, W2, fun i hi => (upd_ne (by omega)).trans (upd_ne (by omega))⟩, (by decide : (0 : Int32) ≠ 1), rfl⟩
      exact congrArg Sum.inl (z_atksz W2 R2 hv).symm
    · have e1 : x_mo_claims al rs n mn xid = (2, al, rs, mn) := by
        unfold x_mo_claims
        rw [b, if_pos rfl, if_neg (by omega)]
      have e2 : x_apply 6 xid xb (n, id, wt, ag, tg, att, ni, dy, mn, mv, en, wo, br) = (.inr "java/lang/IllegalStateException", (n, id, wt, ag, tg, att, ni, dy, mn, mv, en, wo, br)) := by
        simp only [x_apply, x_st_apply6, x_st_claim, c, x_dl_isHeld, if_neg (by omega : ¬ mn ≤ 0)]
        rfl
      rw [e1, e2]
      exact ⟨Or.inr (Or.inr (Or.inl ⟨rfl, rfl, rfl, rfl⟩)), (by decide : (2 : Int32) ≠ 1), rfl⟩
theorem o_reply {B : Nat} {al : Nat → Int32} {s : ZS} (W : z_wfB B s) (R : z_R al 0 s) (rs xid xb : Int32) : z_op B al s (x_mo_replies al rs s.1 s.2.2.2.2.2.2.2.2.1 xid).1 (x_mo_replies al rs s.1 s.2.2.2.2.2.2.2.2.1 xid).2.1 (x_mo_replies al rs s.1 s.2.2.2.2.2.2.2.2.1 xid).2.2.1 (x_apply 7 xid xb s).1 (x_apply 7 xid xb s).2 ∧ (x_mo_replies al rs s.1 s.2.2.2.2.2.2.2.2.1 xid).2.2.2 = (x_apply 7 xid xb s).2.2.2.2.2.2.2.2.2.1 := by
  have W0 := W
  have R0 := R
  obtain ⟨n, id, wt, ag, tg, att, ni, dy, mn, mv, en, wo, br⟩ := s
  obtain ⟨w1, w2, ⟨k, k1, k2, k3⟩, w4, w5, w6, w7, w8, w9, w10⟩ := W
  dsimp only at w1 w2 k2 k3 w4 w5 w6 w7 w8 w9 w10
  obtain ⟨r0, r1, r2, r3, r4, r5, r6, r7, r8⟩ := R
  simp only [Nat.zero_add] at r0 r1 r2 r3 r4 r5 r6 r7 r8
  by_cases hm : mn = 0
  · have e1 : x_mo_replies al rs n mn xid = (3, al, rs, mn) := by
      unfold x_mo_replies
      rw [if_pos hm]
    have e2 : x_apply 7 xid xb (n, id, wt, ag, tg, att, ni, dy, mn, mv, en, wo, br) = (.inr "java/util/NoSuchElementException", (n, id, wt, ag, tg, att, ni, dy, mn, mv, en, wo, br)) := by
      simp only [x_apply, x_st_apply7, x_st_reply, x_st_slotOfReply, x_dl_mustBeHeld, if_pos hm]
    rw [e1, e2]
    exact ⟨Or.inr (Or.inr (Or.inr ⟨rfl, rfl, rfl, rfl⟩)), rfl⟩
  · rcases z_find R0 xid with ⟨a, b, c⟩ | ⟨v, hv, a, b, c, d⟩
    · dsimp only at a b c
      have e1 : x_mo_replies al rs n mn xid = (3, al, rs, mn) := by
        unfold x_mo_replies
        rw [if_neg hm, a]
        rfl
      have e2 : x_apply 7 xid xb (n, id, wt, ag, tg, att, ni, dy, mn, mv, en, wo, br) = (.inr "java/util/NoSuchElementException", (n, id, wt, ag, tg, att, ni, dy, mn, mv, en, wo, br)) := by
        simp only [x_apply, x_st_apply7, x_st_reply, x_st_slotOfReply, x_dl_mustBeHeld, if_neg hm, c]
      rw [e1, e2]
      exact ⟨Or.inr (Or.inr (Or.inr ⟨rfl, rfl, rfl, rfl⟩)), rfl⟩
    · dsimp only at hv a b c d
      have hA : x_st_isAllowed n id att mn mv v = .inl (x_mo_isAllowed al n mn xid) := z_allow W0 R0 hm hv a d
      cases q : x_mo_isAllowed al n mn xid with
      | false =>
        have e1 : x_mo_replies al rs n mn xid = (1, al, rs, mn) := by
          unfold x_mo_replies
          rw [if_neg hm, b, q]
          rfl
        have e2 : x_apply 7 xid xb (n, id, wt, ag, tg, att, ni, dy, mn, mv, en, wo, br) = (.inr "java/lang/IllegalArgumentException", (n, id, wt, ag, tg, att, ni, dy, mn, mv, en, wo, br)) := by
          simp only [x_apply, x_st_apply7, x_st_reply, x_st_slotOfReply, x_dl_mustBeHeld, if_neg hm, c, hA, q]
          rfl
        rw [e1, e2]
        exact ⟨Or.inr (Or.inl ⟨rfl, rfl, rfl, rfl⟩), rfl⟩
      | true =>
        by_cases h12 : mn = 12
        · have e1 : x_mo_replies al rs n mn xid = (2, al, rs, mn) := by
            unfold x_mo_replies
            rw [if_neg hm, b, q, if_pos rfl, if_pos rfl, if_pos h12]
          have e2 : x_apply 7 xid xb (n, id, wt, ag, tg, att, ni, dy, mn, mv, en, wo, br) = (.inr "java/lang/IllegalStateException", (n, id, wt, ag, tg, att, ni, dy, mn, mv, en, wo, br)) := by
            simp only [x_apply, x_st_apply7, x_st_reply, x_st_slotOfReply, x_dl_mustBeHeld, if_neg hm, c, hA, q, x_dl_isFull, if_neg (by omega : ¬ mn < 12), if_true]
          rw [e1, e2]
          exact ⟨Or.inr (Or.inr (Or.inl ⟨rfl, rfl, rfl, rfl⟩)), rfl⟩
        · have h12' : mn < 12 := by omega
          have e1 : x_mo_replies al rs n mn xid = (0, (upd (upd al (39 + mn) xid) 3 (nI (mn + 1))), nI (mn + 1), mn + 1) := by
            unfold x_mo_replies
            rw [if_neg hm, b, q, if_pos rfl, if_pos rfl, if_neg h12]
          have e2 : x_apply 7 xid xb (n, id, wt, ag, tg, att, ni, dy, mn, mv, en, wo, br) = (.inl (nI (mn + 1)), (n, id, wt, ag, tg, att, ni, dy, mn + 1, upd mv mn xid, en, wo, br)) := by
            simp only [x_apply, x_st_apply7, x_st_reply, x_st_slotOfReply, x_dl_mustBeHeld, if_neg hm, c, hA, q, x_dl_isFull, if_pos h12', x_dl_add]
            rfl
          have R2 : z_R (upd (upd al (39 + mn) xid) 3 (nI (mn + 1))) 0 (n, id, wt, ag, tg, att, ni, dy, mn + 1, upd mv mn xid, en, wo, br) := by
            unfold z_R
            simp only [Nat.zero_add]
            have u : ∀ i, i ≠ 39 + mn → i ≠ 3 → (upd (upd al (39 + mn) xid) 3 (nI (mn + 1))) i = al i := fun i h1 h2 => (upd_ne h2).trans (upd_ne h1)
            refine ⟨(u _ (by omega) (by omega)).trans r0, (u _ (by omega) (by omega)).trans r1, (u _ (by omega) (by omega)).trans r2, upd_eq, (u _ (by omega) (by omega)).trans r4, (u _ (by omega) (by omega)).trans r5, (u _ (by omega) (by omega)).trans r6, fun j hj => ⟨(u _ (by omega) (by omega)).trans (r7 j hj).1, (u _ (by omega) (by omega)).trans (r7 j hj).2.1, (u _ (by omega) (by omega)).trans (r7 j hj).2.2.1, (u _ (by omega) (by omega)).trans (r7 j hj).2.2.2⟩, fun p hp => ?_⟩
            by_cases e : p = mn
            · rw [e, upd_ne (by omega), upd_eq, upd_eq]
            · rw [u _ (by omega) (by omega), upd_ne e]
              exact r8 p (by omega)
          have W2 : z_wfB (B + 1) (n, id, wt, ag, tg, att, ni, dy, mn + 1, upd mv mn xid, en, wo, br) := by
            refine ⟨w1, (by show mn + 1 ≤ 12; omega), ⟨k, by omega, k2, k3⟩, w4, w5, w6, w7, w8, fun p hp => ?_, w10⟩
            have hp : p < mn + 1 := hp
            show ∃ j, j < n ∧ upd mv mn xid p = id j
            by_cases e : p = mn
            · rw [e, upd_eq]
              exact ⟨v, hv, d.symm⟩
            · rw [upd_ne e]
              exact w9 p (by omega)
          rw [e1, e2]
          exact ⟨Or.inl ⟨rfl, rfl, R2, W2, fun i hi => (upd_ne (by omega)).trans (upd_ne (by omega))⟩, rfl⟩
theorem z_clr7 : ∀ r k al i, x_mo_clearsMoves_7 r k al i = if 39 + k ≤ i ∧ i < 39 + k + r then 0 else al i := by
  intro r
  induction r with
  | zero =>
    intro k al i
    rw [if_neg (by omega)]
    rfl
  | succ r ih =>
    intro k al i
    show x_mo_clearsMoves_7 r (k + 1) (upd al (39 + k) 0) i = _
    rw [ih]
    by_cases e : i = 39 + k
    · rw [e, if_neg (by omega), upd_eq, if_pos (by omega)]
    · rw [upd_ne e]
      by_cases l : 39 + (k + 1) ≤ i ∧ i < 39 + (k + 1) + r
      · rw [if_pos l, if_pos (by omega)]
      · rw [if_neg l, if_neg (by omega)]
theorem z_clr {al : Nat → Int32} {mn i : Nat} (h : i < 39 + mn ∨ 51 ≤ i) (hm : mn ≤ 12) : x_mo_clearsMoves al mn i = al i := by
  refine (z_clr7 (12 - mn) mn al i).trans ?_
  rw [if_neg (by omega)]
theorem o_takes {B : Nat} {al : Nat → Int32} {s : ZS} (W : z_wfB B s) (R : z_R al 0 s) (rs xa xb : Int32) : z_op B al s (x_mo_takes al rs s.2.2.2.2.2.2.2.2.1).1 (x_mo_takes al rs s.2.2.2.2.2.2.2.2.1).2.1 (x_mo_takes al rs s.2.2.2.2.2.2.2.2.1).2.2.1 (x_apply 8 xa xb s).1 (x_apply 8 xa xb s).2 ∧ (x_mo_takes al rs s.2.2.2.2.2.2.2.2.1).1 ≠ 1 ∧ (x_mo_takes al rs s.2.2.2.2.2.2.2.2.1).2.2.2 = (x_apply 8 xa xb s).2.2.2.2.2.2.2.2.2.1 := by
  have W0 := W
  have R0 := R
  obtain ⟨n, id, wt, ag, tg, att, ni, dy, mn, mv, en, wo, br⟩ := s
  obtain ⟨w1, w2, ⟨k, k1, k2, k3⟩, w4, w5, w6, w7, w8, w9, w10⟩ := W
  dsimp only at w1 w2 k2 k3 w4 w5 w6 w7 w8 w9 w10
  obtain ⟨r0, r1, r2, r3, r4, r5, r6, r7, r8⟩ := R
  simp only [Nat.zero_add] at r0 r1 r2 r3 r4 r5 r6 r7 r8
  by_cases hm : mn = 0
  · have e1 : x_mo_takes al rs mn = (3, al, rs, mn) := by
      unfold x_mo_takes
      rw [if_pos hm]
    have e2 : x_apply 8 xa xb (n, id, wt, ag, tg, att, ni, dy, mn, mv, en, wo, br) = (.inr "java/util/NoSuchElementException", (n, id, wt, ag, tg, att, ni, dy, mn, mv, en, wo, br)) := by
      simp only [x_apply, x_st_apply8, x_dl_dropLast, x_dl_mustBeHeld, if_pos hm]
    rw [e1, e2]
    exact ⟨Or.inr (Or.inr (Or.inr ⟨rfl, rfl, rfl, rfl⟩)), (by decide : (3 : Int32) ≠ 1), rfl⟩
  · by_cases h1 : mn = 1
    · have e1 : x_mo_takes al rs mn = (2, al, rs, mn) := by
        unfold x_mo_takes
        rw [if_neg hm, if_pos h1]
      have e2 : x_apply 8 xa xb (n, id, wt, ag, tg, att, ni, dy, mn, mv, en, wo, br) = (.inr "java/lang/IllegalStateException", (n, id, wt, ag, tg, att, ni, dy, mn, mv, en, wo, br)) := by
        simp only [x_apply, x_st_apply8, x_dl_dropLast, x_dl_mustBeHeld, if_neg hm, if_pos h1]
      rw [e1, e2]
      exact ⟨Or.inr (Or.inr (Or.inl ⟨rfl, rfl, rfl, rfl⟩)), (by decide : (2 : Int32) ≠ 1), rfl⟩
    · have e1 : x_mo_takes al rs mn = (0, (x_mo_clearsMoves (upd al 3 (nI (mn - 1))) (mn - 1)), nI (mn - 1), mn - 1) := by
        unfold x_mo_takes
        rw [if_neg hm, if_neg h1]
      have e2 : x_apply 8 xa xb (n, id, wt, ag, tg, att, ni, dy, mn, mv, en, wo, br) = (.inl (nI (mn - 1)), (n, id, wt, ag, tg, att, ni, dy, mn - 1, mv, en, wo, br)) := by
        simp only [x_apply, x_st_apply8, x_dl_dropLast, x_dl_mustBeHeld, if_neg hm, if_neg h1]
      have u : ∀ i, (i < 39 + (mn - 1) ∨ 51 ≤ i) → i ≠ 3 → (x_mo_clearsMoves (upd al 3 (nI (mn - 1))) (mn - 1)) i = al i := fun i q1 q2 => (z_clr q1 (by omega)).trans (upd_ne q2)
      have R2 : z_R (x_mo_clearsMoves (upd al 3 (nI (mn - 1))) (mn - 1)) 0 (n, id, wt, ag, tg, att, ni, dy, mn - 1, mv, en, wo, br) := by
        unfold z_R
        simp only [Nat.zero_add]
        refine ⟨(u _ (by omega) (by omega)).trans r0, (u _ (by omega) (by omega)).trans r1, (u _ (by omega) (by omega)).trans r2, (z_clr (by omega) (by omega)).trans upd_eq, (u _ (by omega) (by omega)).trans r4, (u _ (by omega) (by omega)).trans r5, (u _ (by omega) (by omega)).trans r6, fun j hj => ⟨(u _ (by omega) (by omega)).trans (r7 j hj).1, (u _ (by omega) (by omega)).trans (r7 j hj).2.1, (u _ (by omega) (by omega)).trans (r7 j hj).2.2.1, (u _ (by omega) (by omega)).trans (r7 j hj).2.2.2⟩, fun p hp => (u _ (by omega) (by omega)).trans (r8 p (by omega))⟩
      have W2 : z_wfB (B + 1) (n, id, wt, ag, tg, att, ni, dy, mn - 1, mv, en, wo, br) := ⟨w1, (by show mn - 1 ≤ 12; omega), ⟨k, by omega, k2, k3⟩, w4, w5, w6, w7, w8, fun p hp => w9 p (by have hp : p < mn - 1 := hp; omega), w10⟩
      rw [e1, e2]
      exact ⟨Or.inl ⟨rfl, rfl, R2, W2, fun i hi => u i (by omega) (by omega)⟩, (by decide : (0 : Int32) ≠ 1), rfl⟩
theorem o_closes {B : Nat} {al : Nat → Int32} {s : ZS} (W : z_wfB B s) (R : z_R al 0 s) (rs xa xb : Int32) : z_op B al s (x_mo_closes al rs s.2.2.2.2.2.2.2.2.1).1 (x_mo_closes al rs s.2.2.2.2.2.2.2.2.1).2.1 (x_mo_closes al rs s.2.2.2.2.2.2.2.2.1).2.2.1 (x_apply 9 xa xb s).1 (x_apply 9 xa xb s).2 ∧ (x_mo_closes al rs s.2.2.2.2.2.2.2.2.1).1 ≠ 1 ∧ (x_mo_closes al rs s.2.2.2.2.2.2.2.2.1).1 ≠ 2 ∧ (x_mo_closes al rs s.2.2.2.2.2.2.2.2.1).2.2.2 = (x_apply 9 xa xb s).2.2.2.2.2.2.2.2.2.1 := by
  have W0 := W
  have R0 := R
  obtain ⟨n, id, wt, ag, tg, att, ni, dy, mn, mv, en, wo, br⟩ := s
  obtain ⟨w1, w2, ⟨k, k1, k2, k3⟩, w4, w5, w6, w7, w8, w9, w10⟩ := W
  dsimp only at w1 w2 k2 k3 w4 w5 w6 w7 w8 w9 w10
  obtain ⟨r0, r1, r2, r3, r4, r5, r6, r7, r8⟩ := R
  simp only [Nat.zero_add] at r0 r1 r2 r3 r4 r5 r6 r7 r8
  by_cases hm : mn = 0
  · have e1 : x_mo_closes al rs mn = (3, al, rs, mn) := by
      unfold x_mo_closes
      rw [if_pos hm]
    have e2 : x_apply 9 xa xb (n, id, wt, ag, tg, att, ni, dy, mn, mv, en, wo, br) = (.inr "java/util/NoSuchElementException", (n, id, wt, ag, tg, att, ni, dy, mn, mv, en, wo, br)) := by
      simp only [x_apply, x_st_apply9, x_dl_end, x_dl_mustBeHeld, if_pos hm]
    rw [e1, e2]
    exact ⟨Or.inr (Or.inr (Or.inr ⟨rfl, rfl, rfl, rfl⟩)), (by decide : (3 : Int32) ≠ 1), (by decide : (3 : Int32) ≠ 2), rfl⟩
  · by_cases h1 : mn % 2 = 1
    · have e1 : x_mo_closes al rs mn = (0, (x_mo_clearsMoves (upd (upd (upd al 4 (en + 1)) 5 (wo + 1)) 3 0) 0), 112, 0) := by
        unfold x_mo_closes
        rw [if_neg hm, if_pos h1, upd_ne (j := 5) (k := 4) (by omega), r4, r5]
      have e2 : x_apply 9 xa xb (n, id, wt, ag, tg, att, ni, dy, mn, mv, en, wo, br) = (.inl 112, (n, id, wt, ag, tg, att, ni, dy, 0, mv, en + 1, wo + 1, br)) := by
        simp only [x_apply, x_st_apply9, x_dl_end, x_dl_mustBeHeld, if_neg hm, z_prop, decide_eq_true (by omega : (mn - 1) % 2 = 0), if_true]
        all_goals rfl
      have u : ∀ i, (i < 39 ∨ 51 ≤ i) → i ≠ 3 → i ≠ 4 → i ≠ 5 → (x_mo_clearsMoves (upd (upd (upd al 4 (en + 1)) 5 (wo + 1)) 3 0) 0) i = al i := fun i q1 q2 q3 q4 => (z_clr (mn := 0) (by omega) (by omega)).trans ((upd_ne q2).trans ((upd_ne q4).trans (upd_ne q3)))
      have R2 : z_R (x_mo_clearsMoves (upd (upd (upd al 4 (en + 1)) 5 (wo + 1)) 3 0) 0) 0 (n, id, wt, ag, tg, att, ni, dy, 0, mv, en + 1, wo + 1, br) := by
        unfold z_R
        simp only [Nat.zero_add]
        refine ⟨(u _ (by omega) (by omega) (by omega) (by omega)).trans r0, (u _ (by omega) (by omega) (by omega) (by omega)).trans r1, (u _ (by omega) (by omega) (by omega) (by omega)).trans r2, (z_clr (mn := 0) (by omega) (by omega)).trans upd_eq, ?_, ?_, (u _ (by omega) (by omega) (by omega) (by omega)).trans r6, fun j hj => ⟨(u _ (by omega) (by omega) (by omega) (by omega)).trans (r7 j hj).1, (u _ (by omega) (by omega) (by omega) (by omega)).trans (r7 j hj).2.1, (u _ (by omega) (by omega) (by omega) (by omega)).trans (r7 j hj).2.2.1, (u _ (by omega) (by omega) (by omega) (by omega)).trans (r7 j hj).2.2.2⟩, fun p hp => absurd hp (Nat.not_lt_zero p)⟩
        · rw [z_clr (mn := 0) (by omega) (by omega), upd_ne (by omega), upd_ne (by omega), upd_eq]
        · rw [z_clr (mn := 0) (by omega) (by omega), upd_ne (by omega), upd_eq]
      have W2 : z_wfB (B + 1) (n, id, wt, ag, tg, att, ni, dy, 0, mv, en + 1, wo + 1, br) := ⟨w1, Nat.zero_le 12, ⟨k, by omega, k2, k3⟩, w4, w5, w6, w7, w8, fun p hp => absurd hp (Nat.not_lt_zero p), w10⟩
      rw [e1, e2]
      exact ⟨Or.inl ⟨rfl, rfl, R2, W2, fun i hi => u i (by omega) (by omega) (by omega) (by omega)⟩, (by decide : (0 : Int32) ≠ 1), (by decide : (0 : Int32) ≠ 2), rfl⟩
    · have e1 : x_mo_closes al rs mn = (0, (x_mo_clearsMoves (upd (upd (upd al 4 (en + 1)) 5 (wo)) 3 0) 0), 111, 0) := by
        unfold x_mo_closes
        rw [if_neg hm, if_neg h1, upd_ne (j := 5) (k := 4) (by omega), r4, r5]
        rw [Int32.add_zero]
      have e2 : x_apply 9 xa xb (n, id, wt, ag, tg, att, ni, dy, mn, mv, en, wo, br) = (.inl 111, (n, id, wt, ag, tg, att, ni, dy, 0, mv, en + 1, wo, br)) := by
        simp only [x_apply, x_st_apply9, x_dl_end, x_dl_mustBeHeld, if_neg hm, z_prop, decide_eq_false (by omega : ¬ (mn - 1) % 2 = 0)]
        all_goals rfl
      have u : ∀ i, (i < 39 ∨ 51 ≤ i) → i ≠ 3 → i ≠ 4 → i ≠ 5 → (x_mo_clearsMoves (upd (upd (upd al 4 (en + 1)) 5 (wo)) 3 0) 0) i = al i := fun i q1 q2 q3 q4 => (z_clr (mn := 0) (by omega) (by omega)).trans ((upd_ne q2).trans ((upd_ne q4).trans (upd_ne q3)))
      have R2 : z_R (x_mo_clearsMoves (upd (upd (upd al 4 (en + 1)) 5 (wo)) 3 0) 0) 0 (n, id, wt, ag, tg, att, ni, dy, 0, mv, en + 1, wo, br) := by
        unfold z_R
        simp only [Nat.zero_add]
        refine ⟨(u _ (by omega) (by omega) (by omega) (by omega)).trans r0, (u _ (by omega) (by omega) (by omega) (by omega)).trans r1, (u _ (by omega) (by omega) (by omega) (by omega)).trans r2, (z_clr (mn := 0) (by omega) (by omega)).trans upd_eq, ?_, ?_, (u _ (by omega) (by omega) (by omega) (by omega)).trans r6, fun j hj => ⟨(u _ (by omega) (by omega) (by omega) (by omega)).trans (r7 j hj).1, (u _ (by omega) (by omega) (by omega) (by omega)).trans (r7 j hj).2.1, (u _ (by omega) (by omega) (by omega) (by omega)).trans (r7 j hj).2.2.1, (u _ (by omega) (by omega) (by omega) (by omega)).trans (r7 j hj).2.2.2⟩, fun p hp => absurd hp (Nat.not_lt_zero p)⟩
        · rw [z_clr (mn := 0) (by omega) (by omega), upd_ne (by omega), upd_ne (by omega), upd_eq]
        · rw [z_clr (mn := 0) (by omega) (by omega), upd_ne (by omega), upd_eq]
      have W2 : z_wfB (B + 1) (n, id, wt, ag, tg, att, ni, dy, 0, mv, en + 1, wo, br) := ⟨w1, Nat.zero_le 12, ⟨k, by omega, k2, k3⟩, w4, w5, w6, w7, w8, fun p hp => absurd hp (Nat.not_lt_zero p), w10⟩
      rw [e1, e2]
      exact ⟨Or.inl ⟨rfl, rfl, R2, W2, fun i hi => u i (by omega) (by omega) (by omega) (by omega)⟩, (by decide : (0 : Int32) ≠ 1), (by decide : (0 : Int32) ≠ 2), rfl⟩
theorem z_day {x : Int32} : (x_mo_in x 1 90 = true ∧ ¬ x < 1 ∧ x ≤ 90 ∧ ∃ m, m ≤ 90 ∧ x = nI m) ∨ (x_mo_in x 1 90 = false ∧ (x < 1 ∨ ¬ x ≤ 90)) := by
  have z := z_inle (x := x) (a := 1) (b := 90)
  by_cases q : x_mo_in x 1 90 = true
  · obtain ⟨q1, q2⟩ := z.mp q
    refine Or.inl ⟨q, q1, q2, ?_⟩
    obtain ⟨m, hm, rfl⟩ := nI_of (x := x) (fun c => q1 (Int32.lt_of_lt_of_le c (by decide)))
    exact ⟨m, (nI_leI (b := 90) hm (by omega)).mp q2, rfl⟩
  · refine Or.inr ⟨by simpa using q, ?_⟩
    by_cases q1 : x < 1
    · exact Or.inl q1
    · exact Or.inr (fun q2 => q (z.mpr ⟨q1, q2⟩))
theorem z_age12 {ds : Int32} : ∀ r k ag j, x_st_age_12 ds r k ag j = if k ≤ j ∧ j < k + r then (if ag j + ds < 90 then ag j + ds else 90) else ag j := by
  intro r
  induction r with
  | zero =>
    intro k ag j
    rw [if_neg (by omega : ¬ (k ≤ j ∧ j < k + 0))]
    rfl
  | succ r ih =>
    intro k ag j
    show x_st_age_12 ds r (k + 1) (upd ag k (if ag k + ds < 90 then ag k + ds else 90)) j = _
    rw [ih]
    by_cases e : j = k
    · subst e
      rw [if_neg (by omega : ¬ (j + 1 ≤ j ∧ j < j + 1 + r)), upd_eq, if_pos (by omega : j ≤ j ∧ j < j + (r + 1))]
    · rw [upd_ne e]
      by_cases l : k + 1 ≤ j ∧ j < k + 1 + r
      · rw [if_pos l, if_pos (by omega : k ≤ j ∧ j < k + (r + 1))]
      · rw [if_neg l, if_neg (by omega : ¬ (k ≤ j ∧ j < k + (r + 1)))]
theorem z_min90 (a : Int32) : (if a ≤ 90 then a else 90) = if a < 90 then a else 90 := by
  by_cases h : a < 90
  · rw [if_pos h, if_pos (Int32.le_of_lt h)]
  · rw [if_neg h]
    by_cases h2 : a ≤ 90
    · rw [if_pos h2]
      exact Int32.le_antisymm h2 (Int32.not_lt.mp h)
    · rw [if_neg h2]
theorem z_ages2 {xd : Int32} : ∀ r k al i, x_mo_ages_2 xd r k al i = if i % 3 = 0 ∧ 9 + 3 * k ≤ i ∧ i < 9 + 3 * (k + r) then (if al i + xd < 90 then al i + xd else 90) else al i := by
  intro r
  induction r with
  | zero =>
    intro k al i
    rw [if_neg (by omega : ¬ (i % 3 = 0 ∧ 9 + 3 * k ≤ i ∧ i < 9 + 3 * (k + 0)))]
    rfl
  | succ r ih =>
    intro k al i
    have u : x_mo_ages_2 xd (r + 1) k al = x_mo_ages_2 xd r (k + 1) (upd al (7 + (3 * k) + 2) (if al (7 + 3 * k + 2) + xd < 90 then al (7 + 3 * k + 2) + xd else 90)) := by
      rw [← z_min90]
      simp only [x_mo_ages_2]
      split <;> rfl
    rw [u, ih]
    by_cases e : i = 7 + 3 * k + 2
    · rw [if_neg (by omega : ¬ (i % 3 = 0 ∧ 9 + 3 * (k + 1) ≤ i ∧ i < 9 + 3 * (k + 1 + r))), if_pos (by omega : i % 3 = 0 ∧ 9 + 3 * k ≤ i ∧ i < 9 + 3 * (k + (r + 1))), e, upd_eq]
    · rw [upd_ne e]
      by_cases l : i % 3 = 0 ∧ 9 + 3 * (k + 1) ≤ i ∧ i < 9 + 3 * (k + 1 + r)
      · rw [if_pos l, if_pos (by omega : i % 3 = 0 ∧ 9 + 3 * k ≤ i ∧ i < 9 + 3 * (k + (r + 1)))]
      · rw [if_neg l, if_neg (by omega : ¬ (i % 3 = 0 ∧ 9 + 3 * k ≤ i ∧ i < 9 + 3 * (k + (r + 1))))]
/-- a state m days older -/
def z_agedS (s : ZS) (xd : Int32) : ZS := (s.1, s.2.1, s.2.2.1, x_st_age_12 xd s.1 0 s.2.2.2.1, s.2.2.2.2.1, (x_st_findAttackers s.1 s.2.2.1 (x_st_age_12 xd s.1 0 s.2.2.2.1) s.2.2.2.2.1 s.2.2.2.2.2.1).2, s.2.2.2.2.2.2.1, s.2.2.2.2.2.2.2.1 + xd, s.2.2.2.2.2.2.2.2)
theorem z_aged {B : Nat} {al : Nat → Int32} {s : ZS} (W : z_wfB B s) (R : z_R al 0 s) {m : Nat} (hm : m ≤ 90) : z_R (x_mo_ages al s.1 (nI m)) 0 (z_agedS s (nI m)) ∧ z_wfB B (z_agedS s (nI m)) ∧ ∀ i, 51 ≤ i → x_mo_ages al s.1 (nI m) i = al i := by
  have W0 := W
  have R0 := R
  obtain ⟨n, id, wt, ag, tg, att, ni, dy, mn, mv, en, wo, br⟩ := s
  obtain ⟨w1, w2, ⟨k, k1, k2, k3⟩, w4, w5, w6, w7, w8, w9, w10⟩ := W
  dsimp only at w1 w2 k2 k3 w4 w5 w6 w7 w8 w9 w10
  obtain ⟨r0, r1, r2, r3, r4, r5, r6, r7, r8⟩ := R
  simp only [Nat.zero_add] at r0 r1 r2 r3 r4 r5 r6 r7 r8
  have u : ∀ i, i ≠ 2 → (∀ j, j < n → i ≠ 7 + 3 * j + 2) → x_mo_ages al n (nI m) i = al i := fun i h1 h2 => by
    refine (upd_ne (f := x_mo_ages_2 (nI m) n 0 al) h1).trans ?_
    rw [z_ages2, if_neg (fun q => h2 ((i - 9) / 3) (by omega) (by omega))]
  refine ⟨?_, ?_, fun i hi => u i (by omega) (fun j hj => by omega)⟩
  · unfold z_R z_agedS
    simp only [Nat.zero_add]
    refine ⟨(u _ (by omega) (fun j hj => by omega)).trans r0, (u _ (by omega) (fun j hj => by omega)).trans r1, ?_, (u _ (by omega) (fun j hj => by omega)).trans r3, (u _ (by omega) (fun j hj => by omega)).trans r4, (u _ (by omega) (fun j hj => by omega)).trans r5, (u _ (by omega) (fun j hj => by omega)).trans r6, fun j hj => ⟨(u _ (by omega) (fun j hj => by omega)).trans (r7 j hj).1, (u _ (by omega) (fun j hj => by omega)).trans (r7 j hj).2.1, ?_, (u _ (by omega) (fun j hj => by omega)).trans (r7 j hj).2.2.2⟩, fun p hp => (u _ (by omega) (fun j hj => by omega)).trans (r8 p hp)⟩
    · refine (upd_eq (f := x_mo_ages_2 (nI m) n 0 al)).trans ?_
      rw [z_ages2, if_neg (by omega), r2]
    · refine (upd_ne (f := x_mo_ages_2 (nI m) n 0 al) (by omega)).trans ?_
      have hj : j < n := hj
      rw [z_ages2, if_pos (by omega : (7 + 3 * j + 2) % 3 = 0 ∧ 9 + 3 * 0 ≤ 7 + 3 * j + 2 ∧ 7 + 3 * j + 2 < 9 + 3 * (0 + n)), z_age12, if_pos (by omega : 0 ≤ j ∧ j < 0 + n), (r7 j hj).2.2.1]
  · refine ⟨w1, w2, ⟨k, k1, k2, k3⟩, w4, w5, fun j hj => ?_, w7, fun j hj => z_fa5 hj, w9, w10⟩
    show ∃ m', m' ≤ 90 ∧ x_st_age_12 (nI m) n 0 ag j = nI m'
    have hj : j < n := hj
    obtain ⟨x, hx, ex⟩ := w6 j hj
    rw [z_age12, if_pos (by omega : 0 ≤ j ∧ j < 0 + n), ex, nI_add]
    by_cases l : nI (x + m) < 90
    · rw [if_pos l]
      exact ⟨x + m, Nat.le_of_lt ((nI_ltI (b := 90) (by omega) (by omega)).mp l), rfl⟩
    · rw [if_neg l]
      exact ⟨90, Nat.le_refl _, rfl⟩
theorem z_bef {al : Nat → Int32} {n : Nat} : ∀ r k bf i, x_mo_passes_14 al n r k bf i = if k ≤ i ∧ i < k + r then x_mo_attackers al n i else bf i := by
  intro r
  induction r with
  | zero =>
    intro k bf i
    rw [if_neg (by omega)]
    rfl
  | succ r ih =>
    intro k bf i
    show x_mo_passes_14 al n r (k + 1) (upd bf k (x_mo_attackers al n k)) i = _
    rw [ih]
    by_cases e : i = k
    · subst e
      rw [if_neg (by omega), upd_eq, if_pos (by omega)]
    · rw [upd_ne e]
      by_cases l : k + 1 ≤ i ∧ i < k + 1 + r
      · rw [if_pos l, if_pos (by omega)]
      · rw [if_neg l, if_neg (by omega)]
theorem z_xorI (a b : Nat) : nI a ^^^ nI b = nI (a ^^^ b) := z_bi_ext fun j hj => by
  rw [z_bi_xor, z_bitb hj, z_bitb hj, z_bitb hj, Nat.testBit_xor]
theorem z_chg4 {n : Nat} {wt ag tg bf : Nat → Int32} {al : Nat → Int32} (hn : n ≤ 8) (h : ∀ k, k < n → ∃ a b, a < 256 ∧ b < 256 ∧ bf k = nI a ∧ x_st_findAttackers_17 wt ag tg k n 0 0 = nI b ∧ x_mo_attackers al n k = nI b) : ∀ r k c att, k + r = n → (∀ i, k ≤ i → i < n → att i = bf i) → (x_st_findAttackers_4 n wt ag tg r k c att).1 = x_mo_passes_53 n bf al r k c := by
  intro r
  induction r with
  | zero =>
    intro k c att _ _
    rfl
  | succ r ih =>
    intro k c att hk hatt
    obtain ⟨a, b, ha, hb, e1, e2, e3⟩ := h k (by omega)
    show (x_st_findAttackers_4 n wt ag tg r (k + 1) (c + z_bc (x_st_findAttackers_17 wt ag tg k n 0 0 ^^^ att k)) (upd att k (x_st_findAttackers_17 wt ag tg k n 0 0))).1 = x_mo_passes_53 n bf al r (k + 1) (c + x_mo_size (bf k ^^^ x_mo_attackers al n k))
    have e4 : z_bc (x_st_findAttackers_17 wt ag tg k n 0 0 ^^^ att k) = x_mo_size (bf k ^^^ x_mo_attackers al n k) := by
      rw [hatt k (by omega) (by omega), e1, e2, e3, z_xorI, z_xorI, Nat.xor_comm]
      exact (z_size _ (Nat.xor_lt_two_pow (n := 8) ha hb)).symm
    rw [e4]
    exact ih (k + 1) _ _ (by omega) (fun i h1 h2 => by rw [upd_ne (by omega)]; exact hatt i (by omega) h2)
theorem o_passes {B : Nat} {al : Nat → Int32} {s : ZS} (W : z_wfB B s) (R : z_R al 0 s) (rs xd xb : Int32) (bf : Nat → Int32) : z_op B al s (x_mo_passes al rs bf s.1 xd).1 (x_mo_passes al rs bf s.1 xd).2.1 (x_mo_passes al rs bf s.1 xd).2.2.1 (x_apply 10 xd xb s).1 (x_apply 10 xd xb s).2 ∧ (x_mo_passes al rs bf s.1 xd).1 ≠ 2 ∧ (x_mo_passes al rs bf s.1 xd).1 ≠ 3 := by
  have W0 := W
  have R0 := R
  rcases z_day (x := xd) with ⟨q1, q2, q3, m, hm, rfl⟩ | ⟨q1, q2⟩
  · obtain ⟨R2, W2, h51⟩ := z_aged W R hm
    have e1 : x_mo_passes al rs bf s.1 (nI m) = (0, x_mo_ages al s.1 (nI m), x_mo_passes_53 s.1 (x_mo_passes_14 al s.1 s.1 0 bf) (x_mo_ages al s.1 (nI m)) s.1 0 0, x_mo_passes_14 al s.1 s.1 0 bf) := by
      unfold x_mo_passes
      rw [q1]
      rfl
    have e2 : x_apply 10 (nI m) xb s = (.inl (x_st_findAttackers s.1 s.2.2.1 (x_st_age_12 (nI m) s.1 0 s.2.2.2.1) s.2.2.2.2.1 s.2.2.2.2.2.1).1, z_agedS s (nI m)) := by
      simp only [x_apply, x_st_apply10, x_st_letPass, x_st_age, if_neg q2, if_pos q3]
      rfl
    rw [e1, e2]
    refine ⟨Or.inl ⟨rfl, ?_, R2, W2.mono (by omega), h51⟩, (by decide : (0 : Int32) ≠ 2), (by decide : (0 : Int32) ≠ 3)⟩
    refine congrArg Sum.inl (z_chg4 (bf := x_mo_passes_14 al s.1 s.1 0 bf) (al := x_mo_ages al s.1 (nI m)) W.1 (fun k hk => ?_) s.1 0 0 s.2.2.2.2.2.1 (by omega) (fun i _ hi => ?_))
    · obtain ⟨a, ha, ea⟩ := W0.att8 hk
      obtain ⟨b, hb, eb⟩ := W2.att8 (j := k) hk
      have eb2 : x_mo_attackers (x_mo_ages al s.1 (nI m)) s.1 k = nI b := (z_att W2 R2 hk).trans eb
      refine ⟨a, b, ha, hb, ?_, ?_, eb2⟩
      · rw [z_bef, if_pos (by omega), z_att W0 R0 hk]
        exact ea
      · exact (W2.2.2.2.2.2.2.2.1 k hk).symm.trans eb
    · rw [z_bef, if_pos (by omega), z_att W0 R0 hi]
  · have e1 : x_mo_passes al rs bf s.1 xd = (1, al, rs, bf) := by
      unfold x_mo_passes
      rw [q1]
      rfl
    have e2 : x_apply 10 xd xb s = (.inr "java/lang/IllegalArgumentException", s) := by
      simp only [x_apply, x_st_apply10, x_st_letPass]
      by_cases q : xd < 1
      · rw [if_pos q]
      · rw [if_neg q, if_neg (q2.resolve_left q)]
    rw [e1, e2]
    exact ⟨Or.inr (Or.inl ⟨rfl, rfl, rfl, rfl⟩), (by decide : (1 : Int32) ≠ 2), (by decide : (1 : Int32) ≠ 3)⟩
