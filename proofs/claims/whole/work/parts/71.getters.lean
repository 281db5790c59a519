theorem p_day : z_P_day := by
  intro t hs se sf s s1 nx kp rw ic fi lc fl al cg sv ad ln lz ip ty ea fa ht J
  refine ⟨?_, J.up⟩
  have h := J.2.1.2.2.1
  rw [Nat.zero_add] at h
  exact h.symm
theorem p_argumentCount : z_P_argumentCount := by
  intro t hs se sf s s1 nx kp rw ic fi lc fl al cg sv ad ln lz ip ty ea fa ht J
  exact ⟨J.n0.1.symm, J.up⟩
theorem p_moveCount : z_P_moveCount := by
  intro t hs se sf s s1 nx kp rw ic fi lc fl al cg sv ad ln lz ip ty ea fa ht J
  exact ⟨J.n0.2.2.1.symm, J.up⟩
theorem p_dialogueTotal : z_P_dialogueTotal := by
  intro t hs se sf s s1 nx kp rw ic fi lc fl al cg sv ad ln lz ip ty ea fa ht J
  refine ⟨?_, J.up⟩
  have h := J.2.1.2.2.2.2.1
  rw [Nat.zero_add] at h
  exact h.symm
theorem p_proponentWins : z_P_proponentWins := by
  intro t hs se sf s s1 nx kp rw ic fi lc fl al cg sv ad ln lz ip ty ea fa ht J
  refine ⟨?_, J.up⟩
  have h := J.2.1.2.2.2.2.2.1
  rw [Nat.zero_add] at h
  exact h.symm
theorem p_brokenOffTotal : z_P_brokenOffTotal := by
  intro t hs se sf s s1 nx kp rw ic fi lc fl al cg sv ad ln lz ip ty ea fa ht J
  refine ⟨?_, J.up⟩
  have h := J.2.1.2.2.2.2.2.2.1
  rw [Nat.zero_add] at h
  exact h.symm
theorem p_isDialogueHeld : z_P_isDialogueHeld := by
  intro t hs se sf s s1 nx kp rw ic fi lc fl al cg sv ad ln lz ip ty ea fa ht J
  refine ⟨?_, J.up⟩
  obtain ⟨-, -, e3, hm⟩ := J.n0
  unfold x_am_isDialogueHeld x_dl_isHeld x_mo_isDialogueHeld x_mo_told
  rw [e3]
  show (if s.2.2.2.2.2.2.2.2.1 ≤ 0 then false else true) = (if nI s.2.2.2.2.2.2.2.2.1 ≤ 0 then ((false, 0) : Bool × Int32) else (true, 0)).1
  have h : nI s.2.2.2.2.2.2.2.2.1 ≤ 0 ↔ s.2.2.2.2.2.2.2.2.1 ≤ 0 := nI_leI (a := s.2.2.2.2.2.2.2.2.1) (b := 0) (by omega) (by omega)
  by_cases c : s.2.2.2.2.2.2.2.2.1 ≤ 0
  · rw [if_pos c, if_pos (h.mpr c)]
  · rw [if_neg c, if_neg (fun q => c (h.mp q))]
theorem p_undoableCount : z_P_undoableCount := by
  intro t hs se sf s s1 nx kp rw ic fi lc fl al cg sv ad ln lz ip ty ea fa ht J
  refine ⟨?_, J.up⟩
  rw [J.2.2.2.2.1]
  rfl
theorem p_attackCount : z_P_attackCount := by
  intro t hs se sf s s1 nx kp rw ic fi lc fl al cg sv ad ln lz ip ty ea fa ht J
  refine ⟨?_, J.up⟩
  exact (z_atk (al := al) (tg := s.2.2.2.2.1) (fun j hj => ⟨J.2.1.tg hj, J.1.tg hj⟩)).symm
theorem z_succ4 {B : Nat} {al : Nat → Int32} {s : ZS} (W : z_wfB B s) (R : z_R al 0 s) : ∀ r k c, k + r = s.1 → x_am_successfulCount_4 s.2.2.2.2.2.1 r k c = x_mo_successfulCount_9 al s.1 r k c := by
  intro r
  induction r with
  | zero =>
    intro k c _
    rfl
  | succ r ih =>
    intro k c hk
    show x_am_successfulCount_4 s.2.2.2.2.2.1 r (k + 1) (c + z_bc (s.2.2.2.2.2.1 k)) = x_mo_successfulCount_9 al s.1 r (k + 1) (c + x_mo_size (x_mo_attackers al s.1 k))
    rw [z_atksz W R (by omega)]
    exact ih (k + 1) _ (by omega)
theorem p_successfulCount : z_P_successfulCount := by
  intro t hs se sf s s1 nx kp rw ic fi lc fl al cg sv ad ln lz ip ty ea fa ht J
  exact ⟨z_succ4 J.1 J.2.1 s.1 0 0 (by omega), J.up⟩
theorem p_errorPosition : z_P_errorPosition := by
  intro t hs se sf s s1 nx kp rw ic fi lc fl al cg sv ad ln lz ip ty ea fa ht J
  refine ⟨?_, J.up⟩
  rw [J.2.2.2.2.2.2.2.2.1]
  unfold x_am_errorPosition x_mo_errorPosition
  by_cases c : ea = -1
  · rw [if_pos c, if_pos c]
    exact Or.inl ⟨rfl, rfl⟩
  · rw [if_neg c, if_neg c]
    exact Or.inr ⟨rfl, rfl⟩
theorem p_failedCommand : z_P_failedCommand := by
  intro t hs se sf s s1 nx kp rw ic fi lc fl al cg sv ad ln lz ip ty ea fa ht J
  refine ⟨?_, J.up⟩
  rw [J.2.2.2.2.2.2.2.2.2.1]
  unfold x_am_failedCommand x_mo_failedCommand
  by_cases c : fa = -1
  · rw [if_pos c, if_pos c]
    exact Or.inl ⟨rfl, rfl⟩
  · rw [if_neg c, if_neg c]
    exact Or.inr ⟨rfl, rfl⟩
theorem p_weightOf : z_P_weightOf := by
  intro t hs se sf s s1 nx kp rw ic fi lc fl al cg sv ad ln lz ip ty ea fa xid ht J
  refine ⟨?_, J.up⟩
  unfold x_am_weightOf x_mo_weightOf x_mo_ofArgument
  rcases z_find J.2.1 xid with ⟨a, b, c⟩ | ⟨v, hv, a, b, c, d⟩
  · rw [a, c]
    exact Or.inl ⟨rfl, rfl⟩
  · rw [a, b, c, Nat.add_sub_cancel, J.2.1.wt hv]
    exact Or.inr ⟨rfl, rfl⟩
theorem p_ageOf : z_P_ageOf := by
  intro t hs se sf s s1 nx kp rw ic fi lc fl al cg sv ad ln lz ip ty ea fa xid ht J
  refine ⟨?_, J.up⟩
  unfold x_am_ageOf x_mo_ageOf x_mo_ofArgument
  rcases z_find J.2.1 xid with ⟨a, b, c⟩ | ⟨v, hv, a, b, c, d⟩
  · rw [a, c]
    exact Or.inl ⟨rfl, rfl⟩
  · rw [a, b, c, Nat.add_sub_cancel, J.2.1.ag hv]
    exact Or.inr ⟨rfl, rfl⟩
theorem p_strengthOf : z_P_strengthOf := by
  intro t hs se sf s s1 nx kp rw ic fi lc fl al cg sv ad ln lz ip ty ea fa xid ht J
  refine ⟨?_, J.up⟩
  unfold x_am_strengthOf x_mo_strengthOf
  rcases z_find J.2.1 xid with ⟨a, b, c⟩ | ⟨v, hv, a, b, c, d⟩
  · rw [a, c]
    exact Or.inl ⟨rfl, rfl⟩
  · rw [a, b, c, Nat.add_sub_cancel, z_str J.2.1 hv]
    exact Or.inr ⟨rfl, rfl⟩
theorem p_attackerCount : z_P_attackerCount := by
  intro t hs se sf s s1 nx kp rw ic fi lc fl al cg sv ad ln lz ip ty ea fa xid ht J
  refine ⟨?_, J.up⟩
  unfold x_am_attackerCount x_mo_attackerCount
  rcases z_find J.2.1 xid with ⟨a, b, c⟩ | ⟨v, hv, a, b, c, d⟩
  · rw [a, c]
    exact Or.inl ⟨rfl, rfl⟩
  · rw [a, b, c, Nat.add_sub_cancel, z_atksz J.1 J.2.1 hv]
    exact Or.inr ⟨rfl, rfl⟩
theorem p_hasAttack : z_P_hasAttack := by
  intro t hs se sf s s1 nx kp rw ic fi lc fl al cg sv ad ln lz ip ty ea fa xf xt ht J
  refine ⟨?_, J.up⟩
  unfold x_am_hasAttack x_mo_hasAttack x_ath
  have h8 := J.1.1
  rcases z_find J.2.1 xf with ⟨a, b, c⟩ | ⟨v, hv, a, b, c, d⟩
  · rw [a, c]
    exact Or.inl ⟨rfl, rfl⟩
  · rcases z_find J.2.1 xt with ⟨a2, b2, c2⟩ | ⟨v2, hv2, a2, b2, c2, d2⟩
    · rw [b, a2, c, c2]
      exact Or.inl ⟨rfl, rfl⟩
    · rw [a, b, c, a2, b2, c2, Nat.add_sub_cancel, Nat.add_sub_cancel, z_isAtt J.2.1 hv (by omega)]
      show z_ag _ (q_oB (.inl (z_has (s.2.2.2.2.1 v) v2))) _ _
      cases z_has (s.2.2.2.2.1 v) v2 <;> exact Or.inr ⟨rfl, rfl⟩
theorem p_isSuccessful : z_P_isSuccessful := by
  intro t hs se sf s s1 nx kp rw ic fi lc fl al cg sv ad ln lz ip ty ea fa xf xt ht J
  refine ⟨?_, J.up⟩
  unfold x_am_isSuccessful x_mo_isSuccessful
  have h8 := J.1.1
  rcases z_find J.2.1 xf with ⟨a, b, c⟩ | ⟨v, hv, a, b, c, d⟩
  · rw [a, c]
    exact Or.inl ⟨rfl, rfl⟩
  · rcases z_find J.2.1 xt with ⟨a2, b2, c2⟩ | ⟨v2, hv2, a2, b2, c2, d2⟩
    · rw [b, a2, c, c2]
      exact Or.inl ⟨rfl, rfl⟩
    · rw [a, b, c, a2, b2, c2, Nat.add_sub_cancel, Nat.add_sub_cancel, z_isAtt J.2.1 hv (by omega)]
      have key : z_has (s.2.2.2.2.2.1 v2) v = x_mo_wins al v v2 := by
        rw [← z_att J.1 J.2.1 hv2, z_has_bt _ (by omega), z_attb hv h8]
      show z_ag _ (q_oB (if z_has (s.2.2.2.2.1 v) v2 = true then .inl (z_has (s.2.2.2.2.2.1 v2) v) else .inr "java/util/NoSuchElementException")) _ _
      rw [key]
      cases q : z_has (s.2.2.2.2.1 v) v2
      · exact Or.inl ⟨rfl, rfl⟩
      · cases x_mo_wins al v v2 <;> exact Or.inr ⟨rfl, rfl⟩
theorem z_atAt {B : Nat} {al : Nat → Int32} {s : ZS} (W : z_wfB B s) (R : z_R al 0 s) {xid xp : Int32} {v : Nat} (hv : v < s.1) (a : x_pl s.1 al xid = v + 1) (b : x_th s.1 al xid = true) : ∀ r k c, k + r = s.1 → (x_am_attackerAt_23 s.2.1 s.2.2.2.2.2.1 xp v r k c = .inl () ∧ x_mo_attackerAt_30 al s.1 xid xp r k c = .inl ()) ∨ ∃ w, x_am_attackerAt_23 s.2.1 s.2.2.2.2.2.1 xp v r k c = .inr (.inl w) ∧ x_mo_attackerAt_30 al s.1 xid xp r k c = .inr (w, 0) := by
  have h8 := W.1
  intro r
  induction r with
  | zero =>
    intro k c _
    exact Or.inl ⟨rfl, rfl⟩
  | succ r ih =>
    intro k c hk
    have u1 : x_am_attackerAt_23 s.2.1 s.2.2.2.2.2.1 xp v (r + 1) k c = if z_has (s.2.2.2.2.2.1 v) k then (if c = xp then .inr (.inl (s.2.1 k)) else x_am_attackerAt_23 s.2.1 s.2.2.2.2.2.1 xp v r (k + 1) (c + 1)) else x_am_attackerAt_23 s.2.1 s.2.2.2.2.2.1 xp v r (k + 1) c := rfl
    have u2 : x_mo_attackerAt_30 al s.1 xid xp (r + 1) k c = if (((x_mo_attackers al s.1 (x_pl s.1 al xid - 1)) >>> ((nI k) &&& 31)) &&& (1 : Int32)) = 1 then (if c = xp then .inr (al (7 + 3 * k + 0), (if x_th s.1 al xid then 0 else 1)) else x_mo_attackerAt_30 al s.1 xid xp r (k + 1) (c + (1 : Int32))) else x_mo_attackerAt_30 al s.1 xid xp r (k + 1) (c + (0 : Int32)) := rfl
    rw [u1, u2, a, Nat.add_sub_cancel, z_att W R hv, z_has_bt _ (by omega), b, R.id (by omega)]
    have z := z_bit1 (s.2.2.2.2.2.1 v) (j := k) (by omega)
    by_cases q : z_bi (s.2.2.2.2.2.1 v) k = true
    · rw [if_pos q, if_pos (z.mpr q)]
      by_cases e : c = xp
      · rw [if_pos e, if_pos e]
        exact Or.inr ⟨_, rfl, rfl⟩
      · rw [if_neg e, if_neg e]
        exact ih (k + 1) _ (by omega)
    · rw [if_neg q, if_neg (fun c => q (z.mp c)), Int32.add_zero]
      exact ih (k + 1) _ (by omega)
theorem p_attackerAt : z_P_attackerAt := by
  intro t hs se sf s s1 nx kp rw ic fi lc fl al cg sv ad ln lz ip ty ea fa xid xp ht J
  refine ⟨?_, J.up⟩
  unfold x_am_attackerAt x_mo_attackerAt
  rcases z_find J.2.1 xid with ⟨a, b, c⟩ | ⟨v, hv, a, b, c, d⟩
  · rw [a, c]
    exact Or.inl ⟨rfl, rfl⟩
  · rw [b, c]
    rcases z_atAt J.1 J.2.1 (xp := xp) hv a b s.1 0 0 (by omega) with ⟨e1, e2⟩ | ⟨w, e1, e2⟩
    · show z_ag _ (q_oI (match x_am_attackerAt_23 s.2.1 s.2.2.2.2.2.1 xp v s.1 0 0 with | .inl () => .inr "java/lang/IndexOutOfBoundsException" | .inr zz => zz)) _ _
      rw [e1, e2]
      exact Or.inr (Or.inl ⟨rfl, rfl⟩)
    · show z_ag _ (q_oI (match x_am_attackerAt_23 s.2.1 s.2.2.2.2.2.1 xp v s.1 0 0 with | .inl () => .inr "java/lang/IndexOutOfBoundsException" | .inr zz => zz)) _ _
      rw [e1, e2]
      exact Or.inr (Or.inr ⟨rfl, rfl⟩)
theorem p_idAt : z_P_idAt := by
  intro t hs se sf s s1 nx kp rw ic fi lc fl al cg sv ad ln lz ip ty ea fa xp ht J
  refine ⟨?_, J.up⟩
  have h8 := J.1.1
  have z := z_in_ge (x := xp) (n := s.1) (by omega)
  unfold x_am_idAt x_mo_idAt
  by_cases q : x_mo_in xp 0 (nI s.1 - 1) = true
  · obtain ⟨q1, q2⟩ := z.mp q
    obtain ⟨j, hj, rfl⟩ := nI_of q1
    rw [if_neg q1, if_pos q2, q, nI_clamp hj, J.2.1.id ((nI_ltI hj (by omega)).mp q2)]
    exact Or.inr ⟨rfl, rfl⟩
  · have q' : x_mo_in xp 0 (nI s.1 - 1) = false := by simpa using q
    rw [q']
    by_cases q1 : xp < 0
    · rw [if_pos q1]
      exact Or.inl ⟨rfl, rfl⟩
    · rw [if_neg q1, if_neg (fun q2 => q (z.mpr ⟨q1, q2⟩))]
      exact Or.inl ⟨rfl, rfl⟩
theorem p_moveAt : z_P_moveAt := by
  intro t hs se sf s s1 nx kp rw ic fi lc fl al cg sv ad ln lz ip ty ea fa xp ht J
  refine ⟨?_, J.up⟩
  have h8 := J.1.2.1
  have z := z_in_ge (x := xp) (n := s.2.2.2.2.2.2.2.2.1) (by omega)
  unfold x_am_moveAt x_mo_moveAt
  by_cases q : x_mo_in xp 0 (nI s.2.2.2.2.2.2.2.2.1 - 1) = true
  · obtain ⟨q1, q2⟩ := z.mp q
    obtain ⟨j, hj, rfl⟩ := nI_of q1
    have hj2 := (nI_ltI hj (by omega)).mp q2
    have e : ((39 : Int32) + nI j).toNatClampNeg = 39 + j := by
      rw [show (39 : Int32) = nI 39 from rfl, nI_add]
      exact nI_clamp (by omega)
    rw [if_neg q1, if_pos q2, q, nI_clamp hj, e, J.2.1.mv hj2]
    exact Or.inr ⟨rfl, rfl⟩
  · have q' : x_mo_in xp 0 (nI s.2.2.2.2.2.2.2.2.1 - 1) = false := by simpa using q
    rw [q']
    by_cases q1 : xp < 0
    · rw [if_pos q1]
      exact Or.inl ⟨rfl, rfl⟩
    · rw [if_neg q1, if_neg (fun q2 => q (z.mpr ⟨q1, q2⟩))]
      exact Or.inl ⟨rfl, rfl⟩
theorem p_lineChar : z_P_lineChar := by
  intro t hs se sf s s1 nx kp rw ic fi lc fl al cg sv ad ln lz ip ty ea fa xp ht J
  have J2 := J.up
  obtain ⟨-, -, -, -, -, -, -, -, -, -, -, el, hlz, hl, -⟩ := J
  subst el
  have z := z_in_ge (x := xp) (n := lc) (by omega)
  refine ⟨fun j hj => ?_, ?_, J2⟩
  · obtain ⟨m, hm, e, -⟩ := hl j hj
    exact z_lat_char ⟨m, hm, e⟩
  unfold x_am_lineChar x_mo_lineChar
  by_cases q : x_mo_in xp 0 (nI lc - 1) = true
  · obtain ⟨q1, q2⟩ := z.mp q
    obtain ⟨j, hj, rfl⟩ := nI_of q1
    obtain ⟨m, -, e1, e2⟩ := hl j ((nI_ltI hj (by omega)).mp q2)
    rw [if_neg q1, if_pos q2, q, nI_clamp hj, e1, e2]
    exact Or.inr ⟨rfl, rfl⟩
  · have q' : x_mo_in xp 0 (nI lc - 1) = false := by simpa using q
    rw [q']
    by_cases q1 : xp < 0
    · rw [if_pos q1]
      exact Or.inl ⟨rfl, rfl⟩
    · rw [if_neg q1, if_neg (fun q2 => q (z.mpr ⟨q1, q2⟩))]
      exact Or.inl ⟨rfl, rfl⟩
theorem z_in_lat {x : Int32} : x_mo_in x 32 126 = true ↔ ¬ x < 32 ∧ x ≤ 126 := by
  unfold x_mo_in
  by_cases h : x < 32
  · rw [if_pos h]
    exact ⟨fun c => (by cases c), fun c => absurd h c.1⟩
  · rw [if_neg h]
    by_cases h2 : (126 : Int32) < x
    · rw [if_pos h2]
      exact ⟨fun c => (by cases c), fun c => (Int32.lt_irrefl (Int32.lt_of_lt_of_le h2 c.2)).elim⟩
    · rw [if_neg h2]
      exact ⟨fun _ => ⟨h, Int32.not_lt.mp h2⟩, fun _ => rfl⟩
theorem p_append : z_P_append := by
  intro t hs se sf s s1 nx kp rw ic fi lc fl al cg sv ad ln lz ip ty ea fa xc ht J
  have J2 := J.up
  obtain ⟨a1, a2, a3, a4, a5, a6, a7, a8, a9, a10, a11, a12, a13, a14, et, h60, hi⟩ := J2
  subst et
  have z := z_in_lat (x := xc)
  unfold x_am_append x_mo_append
  by_cases q : x_mo_in xc 32 126 = true
  · obtain ⟨q1, q2⟩ := z.mp q
    rw [if_neg q1, if_pos q2, if_pos q]
    by_cases l : ic < 60
    · rw [if_pos l, if_neg (by omega)]
      refine ⟨Or.inr (Or.inr ⟨rfl, rfl⟩), a1, a2, a3, a4, a5, a6, a7, a8, a9, a10, a11, a12, a13, a14, rfl, (by show ic + 1 ≤ 60; omega), ?_⟩
      intro j hj
      show ∃ m, 32 ≤ m ∧ m < 127 ∧ upd ip ic xc j = nI m ∧ upd fi ic xc j = nI m
      by_cases e : j = ic
      · subst e
        rw [upd_eq, upd_eq]
        obtain ⟨m, hm, rfl⟩ := nI_of (x := xc) (fun c => q1 (Int32.lt_of_lt_of_le c (by decide)))
        have h1 : ¬ m < 32 := fun c => q1 ((nI_ltI (b := 32) hm (by omega)).mpr c)
        have h2 : m ≤ 126 := (nI_leI (b := 126) hm (by omega)).mp q2
        exact ⟨m, by omega, by omega, rfl, rfl⟩
      · rw [upd_ne e, upd_ne e]
        exact hi j (by have hj : j < ic + 1 := hj; omega)
    · rw [if_neg l, if_pos (by omega)]
      exact ⟨Or.inr (Or.inl ⟨rfl, rfl⟩), a1, a2, a3, a4, a5, a6, a7, a8, a9, a10, a11, a12, a13, a14, rfl, h60, hi⟩
  · have q' : x_mo_in xc 32 126 = false := by simpa using q
    have e2 : (if xc < 32 then ((.inr "java/lang/IllegalArgumentException", ic, fi) : (Int32 ⊕ String) × Nat × (Nat → Int32)) else if xc ≤ 126 then (if ic < 60 then (.inl (nI (ic + 1)), ic + 1, upd fi ic xc) else (.inr "java/lang/IllegalStateException", ic, fi)) else (.inr "java/lang/IllegalArgumentException", ic, fi)) = (.inr "java/lang/IllegalArgumentException", ic, fi) := by
      by_cases q1 : xc < 32
      · rw [if_pos q1]
      · rw [if_neg q1, if_neg (fun q2 => q (z.mpr ⟨q1, q2⟩))]
    rw [e2, q']
    exact ⟨Or.inl ⟨rfl, rfl⟩, a1, a2, a3, a4, a5, a6, a7, a8, a9, a10, a11, a12, a13, a14, rfl, h60, hi⟩
