theorem z_J.nx8 {t : Nat} {hs : Bool} {se : Int32} {sf : Int32} {s : ZS} {s1 : ZS} {nx : Nat} {kp : Nat} {rw : Nat → ZS} {ic : Nat} {fi : Nat → Int32} {lc : Nat} {fl : Nat → Int32} {al : Nat → Int32} {cg : Nat} {sv : Bool} {ad : Nat → Int32} {ln : Nat → Int32} {lz : Nat} {ip : Nat → Int32} {ty : Nat} {ea : Int32} {fa : Int32} (J : z_J t hs se sf s s1 nx kp rw ic fi lc fl al cg sv ad ln lz ip ty ea fa) : nx ≤ 8 := J.2.2.2.2.2.2.1
theorem z_J.kp8 {t : Nat} {hs : Bool} {se : Int32} {sf : Int32} {s : ZS} {s1 : ZS} {nx : Nat} {kp : Nat} {rw : Nat → ZS} {ic : Nat} {fi : Nat → Int32} {lc : Nat} {fl : Nat → Int32} {al : Nat → Int32} {cg : Nat} {sv : Bool} {ad : Nat → Int32} {ln : Nat → Int32} {lz : Nat} {ip : Nat → Int32} {ty : Nat} {ea : Int32} {fa : Int32} (J : z_J t hs se sf s s1 nx kp rw ic fi lc fl al cg sv ad ln lz ip ty ea fa) : kp ≤ 8 := J.2.2.2.2.2.1
theorem z_J.kc {t : Nat} {hs : Bool} {se : Int32} {sf : Int32} {s : ZS} {s1 : ZS} {nx : Nat} {kp : Nat} {rw : Nat → ZS} {ic : Nat} {fi : Nat → Int32} {lc : Nat} {fl : Nat → Int32} {al : Nat → Int32} {cg : Nat} {sv : Bool} {ad : Nat → Int32} {ln : Nat → Int32} {lz : Nat} {ip : Nat → Int32} {ty : Nat} {ea : Int32} {fa : Int32} (J : z_J t hs se sf s s1 nx kp rw ic fi lc fl al cg sv ad ln lz ip ty ea fa) : kp = cg := J.2.2.2.2.1
theorem z_J.r10 {t : Nat} {hs : Bool} {se : Int32} {sf : Int32} {s : ZS} {s1 : ZS} {nx : Nat} {kp : Nat} {rw : Nat → ZS} {ic : Nat} {fi : Nat → Int32} {lc : Nat} {fl : Nat → Int32} {al : Nat → Int32} {cg : Nat} {sv : Bool} {ad : Nat → Int32} {ln : Nat → Int32} {lz : Nat} {ip : Nat → Int32} {ty : Nat} {ea : Int32} {fa : Int32} (J : z_J t hs se sf s s1 nx kp rw ic fi lc fl al cg sv ad ln lz ip ty ea fa) : z_R (x_cp al 0 10) 0 s := z_R.cpNe (u := 0) J.2.1 J.1.1 J.1.2.1 (by omega)
theorem p_addArgument : z_P_addArgument := by
  intro t hs se sf s s1 nx kp rw ic fi lc fl al cg sv ad ln lz ip ty ea fa rs xa ht J
  obtain ⟨hop, h3, -⟩ := o_add (B := 15 * t) J.1 J.r10 rs xa 0 (by omega)
  have hch := z_change J (by omega) hop
  have eA : x_am_addArgument s nx kp rw xa = x_am_change s nx kp rw 0 xa 0 := by
    unfold x_am_addArgument
    rcases x_am_change s nx kp rw 0 xa 0 with ⟨o, r⟩
    cases o <;> rfl
  have eM : x_mo_addArgument al cg rs s.1 xa = (let q := x_mo_adds (x_cp al 0 10) rs s.1 xa; ((x_mo_ends q.2.1 cg q.2.2.1 q.1 1 2 0).1, (x_mo_ends q.2.1 cg q.2.2.1 q.1 1 2 0).2.1, (x_mo_ends q.2.1 cg q.2.2.1 q.1 1 2 0).2.2.1, (x_mo_ends q.2.1 cg q.2.2.1 q.1 1 2 0).2.2.2, q.2.2.1)) := rfl
  rw [eA, eM, x_am_change_eq J.nx8 J.kp8]
  dsimp only
  have kc := J.kc
  clear hop
  generalize x_mo_adds (x_cp al 0 10) rs s.1 xa = q at hch h3 ⊢
  generalize x_apply 0 xa 0 s = y at hch ⊢
  obtain ⟨c, al1, rs1, n1⟩ := q
  obtain ⟨o, s2⟩ := y
  dsimp only at hch h3 ⊢
  rcases hch with ⟨hc, ho, J2⟩ | ⟨hs, J2, ⟨hc, ho⟩ | ⟨hc, ho⟩ | ⟨hc, ho⟩⟩
  · subst hc ho
    rw [z_ends0]
    exact ⟨Or.inr (Or.inr ⟨rfl, rfl⟩), J2⟩
  · subst hc ho hs
    rw [z_ends1 (by decide)]
    exact ⟨Or.inl ⟨rfl, rfl⟩, J2⟩
  · subst hc ho hs
    rw [z_ends2 (by decide)]
    exact ⟨Or.inr (Or.inl ⟨rfl, rfl⟩), J2⟩
  · exact absurd hc h3
theorem p_removeArgument : z_P_removeArgument := by
  intro t hs se sf s s1 nx kp rw ic fi lc fl al cg sv ad ln lz ip ty ea fa rs xa ht J
  obtain ⟨hop, h1, h2, -, -⟩ := o_remove (B := 15 * t) J.1 J.r10 rs xa 0
  have hch := z_change J (by omega) hop
  have eA : x_am_removeArgument s nx kp rw xa = x_am_change s nx kp rw 1 xa 0 := by
    unfold x_am_removeArgument
    rcases x_am_change s nx kp rw 1 xa 0 with ⟨o, r⟩
    cases o <;> rfl
  have eM : x_mo_removeArgument al cg rs s.1 s.2.2.2.2.2.2.2.2.1 xa = (let q := x_mo_removes (x_cp al 0 10) rs s.1 s.2.2.2.2.2.2.2.2.1 xa; ((x_mo_ends q.2.1 cg q.2.2.1 q.1 0 0 1).1, (x_mo_ends q.2.1 cg q.2.2.1 q.1 0 0 1).2.1, (x_mo_ends q.2.1 cg q.2.2.1 q.1 0 0 1).2.2.1, (x_mo_ends q.2.1 cg q.2.2.1 q.1 0 0 1).2.2.2, q.2.2.1)) := rfl
  rw [eA, eM, x_am_change_eq J.nx8 J.kp8]
  dsimp only
  have kc := J.kc
  clear hop
  generalize x_mo_removes (x_cp al 0 10) rs s.1 s.2.2.2.2.2.2.2.2.1 xa = q at hch h1 h2 ⊢
  generalize x_apply 1 xa 0 s = y at hch ⊢
  obtain ⟨c, al1, rs1, n1, mn1⟩ := q
  obtain ⟨o, s2⟩ := y
  dsimp only at hch h1 h2 ⊢
  rcases hch with ⟨hc, ho, J2⟩ | ⟨hs, J2, ⟨hc, ho⟩ | ⟨hc, ho⟩ | ⟨hc, ho⟩⟩
  · subst hc ho
    rw [z_ends0]
    exact ⟨Or.inr ⟨rfl, rfl⟩, J2⟩
  · exact absurd hc h1
  · exact absurd hc h2
  · subst hc ho hs
    rw [z_ends3 (by decide)]
    exact ⟨Or.inl ⟨rfl, rfl⟩, J2⟩
theorem p_addAttack : z_P_addAttack := by
  intro t hs se sf s s1 nx kp rw ic fi lc fl al cg sv ad ln lz ip ty ea fa rs xa xb ht J
  have hop := o_leads (B := 15 * t) J.1 J.r10 rs xa xb
  have hch := z_change J (by omega) hop
  have eA : x_am_addAttack s nx kp rw xa xb = x_am_change s nx kp rw 2 xa xb := by
    unfold x_am_addAttack
    rcases x_am_change s nx kp rw 2 xa xb with ⟨o, r⟩
    cases o <;> rfl
  have eM : x_mo_addAttack al cg rs s.1 xa xb = (let q := x_mo_leads (x_cp al 0 10) rs s.1 xa xb; ((x_mo_ends q.2.1 cg q.2.2 q.1 2 3 1).1, (x_mo_ends q.2.1 cg q.2.2 q.1 2 3 1).2.1, (x_mo_ends q.2.1 cg q.2.2 q.1 2 3 1).2.2.1, (x_mo_ends q.2.1 cg q.2.2 q.1 2 3 1).2.2.2, q.2.2)) := rfl
  rw [eA, eM, x_am_change_eq J.nx8 J.kp8]
  dsimp only
  have kc := J.kc
  clear hop
  generalize x_mo_leads (x_cp al 0 10) rs s.1 xa xb = q at hch ⊢
  generalize x_apply 2 xa xb s = y at hch ⊢
  obtain ⟨c, al1, rs1⟩ := q
  obtain ⟨o, s2⟩ := y
  dsimp only at hch ⊢
  rcases hch with ⟨hc, ho, J2⟩ | ⟨hs, J2, ⟨hc, ho⟩ | ⟨hc, ho⟩ | ⟨hc, ho⟩⟩
  · subst hc ho
    rw [z_ends0]
    exact ⟨Or.inr (Or.inr (Or.inr ⟨rfl, rfl⟩)), J2⟩
  · subst hc ho hs
    rw [z_ends1 (by decide)]
    exact ⟨Or.inr (Or.inl ⟨rfl, rfl⟩), J2⟩
  · subst hc ho hs
    rw [z_ends2 (by decide)]
    exact ⟨Or.inr (Or.inr (Or.inl ⟨rfl, rfl⟩)), J2⟩
  · subst hc ho hs
    rw [z_ends3 (by decide)]
    exact ⟨Or.inl ⟨rfl, rfl⟩, J2⟩
theorem p_removeAttack : z_P_removeAttack := by
  intro t hs se sf s s1 nx kp rw ic fi lc fl al cg sv ad ln lz ip ty ea fa rs xa xb ht J
  obtain ⟨hop, h1, h2⟩ := o_yields (B := 15 * t) J.1 J.r10 rs xa xb
  have hch := z_change J (by omega) hop
  have eA : x_am_removeAttack s nx kp rw xa xb = x_am_change s nx kp rw 3 xa xb := by
    unfold x_am_removeAttack
    rcases x_am_change s nx kp rw 3 xa xb with ⟨o, r⟩
    cases o <;> rfl
  have eM : x_mo_removeAttack al cg rs s.1 xa xb = (let q := x_mo_yields (x_cp al 0 10) rs s.1 xa xb; ((x_mo_ends q.2.1 cg q.2.2 q.1 0 0 1).1, (x_mo_ends q.2.1 cg q.2.2 q.1 0 0 1).2.1, (x_mo_ends q.2.1 cg q.2.2 q.1 0 0 1).2.2.1, (x_mo_ends q.2.1 cg q.2.2 q.1 0 0 1).2.2.2, q.2.2)) := rfl
  rw [eA, eM, x_am_change_eq J.nx8 J.kp8]
  dsimp only
  have kc := J.kc
  clear hop
  generalize x_mo_yields (x_cp al 0 10) rs s.1 xa xb = q at hch h1 h2 ⊢
  generalize x_apply 3 xa xb s = y at hch ⊢
  obtain ⟨c, al1, rs1⟩ := q
  obtain ⟨o, s2⟩ := y
  dsimp only at hch h1 h2 ⊢
  rcases hch with ⟨hc, ho, J2⟩ | ⟨hs, J2, ⟨hc, ho⟩ | ⟨hc, ho⟩ | ⟨hc, ho⟩⟩
  · subst hc ho
    rw [z_ends0]
    exact ⟨Or.inr ⟨rfl, rfl⟩, J2⟩
  · exact absurd hc h1
  · exact absurd hc h2
  · subst hc ho hs
    rw [z_ends3 (by decide)]
    exact ⟨Or.inl ⟨rfl, rfl⟩, J2⟩
theorem p_setWeight : z_P_setWeight := by
  intro t hs se sf s s1 nx kp rw ic fi lc fl al cg sv ad ln lz ip ty ea fa rs xa xb ht J
  obtain ⟨hop, h2⟩ := o_weigh (B := 15 * t) J.1 J.r10 rs xa xb
  have hch := z_change J (by omega) hop
  have eA : x_am_setWeight s nx kp rw xa xb = x_am_change s nx kp rw 4 xa xb := by
    unfold x_am_setWeight
    rcases x_am_change s nx kp rw 4 xa xb with ⟨o, r⟩
    cases o <;> rfl
  have eM : x_mo_setWeight al cg rs s.1 xa xb = (let q := x_mo_weighs (x_cp al 0 10) rs s.1 xa xb; ((x_mo_ends q.2.1 cg q.2.2 q.1 2 0 1).1, (x_mo_ends q.2.1 cg q.2.2 q.1 2 0 1).2.1, (x_mo_ends q.2.1 cg q.2.2 q.1 2 0 1).2.2.1, (x_mo_ends q.2.1 cg q.2.2 q.1 2 0 1).2.2.2, q.2.2)) := rfl
  rw [eA, eM, x_am_change_eq J.nx8 J.kp8]
  dsimp only
  have kc := J.kc
  clear hop
  generalize x_mo_weighs (x_cp al 0 10) rs s.1 xa xb = q at hch h2 ⊢
  generalize x_apply 4 xa xb s = y at hch ⊢
  obtain ⟨c, al1, rs1⟩ := q
  obtain ⟨o, s2⟩ := y
  dsimp only at hch h2 ⊢
  rcases hch with ⟨hc, ho, J2⟩ | ⟨hs, J2, ⟨hc, ho⟩ | ⟨hc, ho⟩ | ⟨hc, ho⟩⟩
  · subst hc ho
    rw [z_ends0]
    exact ⟨Or.inr (Or.inr ⟨rfl, rfl⟩), J2⟩
  · subst hc ho hs
    rw [z_ends1 (by decide)]
    exact ⟨Or.inr (Or.inl ⟨rfl, rfl⟩), J2⟩
  · exact absurd hc h2
  · subst hc ho hs
    rw [z_ends3 (by decide)]
    exact ⟨Or.inl ⟨rfl, rfl⟩, J2⟩
theorem p_renew : z_P_renew := by
  intro t hs se sf s s1 nx kp rw ic fi lc fl al cg sv ad ln lz ip ty ea fa rs xa ht J
  obtain ⟨hop, h1, h2⟩ := o_renew (B := 15 * t) J.1 J.r10 rs xa 0
  have hch := z_change J (by omega) hop
  have eA : x_am_renew s nx kp rw xa = x_am_change s nx kp rw 5 xa 0 := by
    unfold x_am_renew
    rcases x_am_change s nx kp rw 5 xa 0 with ⟨o, r⟩
    cases o <;> rfl
  have eM : x_mo_renew al cg rs s.1 xa = (let q := x_mo_renews (x_cp al 0 10) rs s.1 xa; ((x_mo_ends q.2.1 cg q.2.2 q.1 0 0 1).1, (x_mo_ends q.2.1 cg q.2.2 q.1 0 0 1).2.1, (x_mo_ends q.2.1 cg q.2.2 q.1 0 0 1).2.2.1, (x_mo_ends q.2.1 cg q.2.2 q.1 0 0 1).2.2.2, q.2.2)) := rfl
  rw [eA, eM, x_am_change_eq J.nx8 J.kp8]
  dsimp only
  have kc := J.kc
  clear hop
  generalize x_mo_renews (x_cp al 0 10) rs s.1 xa = q at hch h1 h2 ⊢
  generalize x_apply 5 xa 0 s = y at hch ⊢
  obtain ⟨c, al1, rs1⟩ := q
  obtain ⟨o, s2⟩ := y
  dsimp only at hch h1 h2 ⊢
  rcases hch with ⟨hc, ho, J2⟩ | ⟨hs, J2, ⟨hc, ho⟩ | ⟨hc, ho⟩ | ⟨hc, ho⟩⟩
  · subst hc ho
    rw [z_ends0]
    exact ⟨Or.inr ⟨rfl, rfl⟩, J2⟩
  · exact absurd hc h1
  · exact absurd hc h2
  · subst hc ho hs
    rw [z_ends3 (by decide)]
    exact ⟨Or.inl ⟨rfl, rfl⟩, J2⟩
theorem p_startDialogue : z_P_startDialogue := by
  intro t hs se sf s s1 nx kp rw ic fi lc fl al cg sv ad ln lz ip ty ea fa rs xa ht J
  obtain ⟨hop, h1, -⟩ := o_claim (B := 15 * t) J.1 J.r10 rs xa 0
  have hch := z_change J (by omega) hop
  have eA : x_am_startDialogue s nx kp rw xa = x_am_change s nx kp rw 6 xa 0 := by
    unfold x_am_startDialogue
    rcases x_am_change s nx kp rw 6 xa 0 with ⟨o, r⟩
    cases o <;> rfl
  have eM : x_mo_startDialogue al cg rs s.1 s.2.2.2.2.2.2.2.2.1 xa = (let q := x_mo_claims (x_cp al 0 10) rs s.1 s.2.2.2.2.2.2.2.2.1 xa; ((x_mo_ends q.2.1 cg q.2.2.1 q.1 0 2 1).1, (x_mo_ends q.2.1 cg q.2.2.1 q.1 0 2 1).2.1, (x_mo_ends q.2.1 cg q.2.2.1 q.1 0 2 1).2.2.1, (x_mo_ends q.2.1 cg q.2.2.1 q.1 0 2 1).2.2.2, q.2.2.1)) := rfl
  rw [eA, eM, x_am_change_eq J.nx8 J.kp8]
  dsimp only
  have kc := J.kc
  clear hop
  generalize x_mo_claims (x_cp al 0 10) rs s.1 s.2.2.2.2.2.2.2.2.1 xa = q at hch h1 ⊢
  generalize x_apply 6 xa 0 s = y at hch ⊢
  obtain ⟨c, al1, rs1, mn1⟩ := q
  obtain ⟨o, s2⟩ := y
  dsimp only at hch h1 ⊢
  rcases hch with ⟨hc, ho, J2⟩ | ⟨hs, J2, ⟨hc, ho⟩ | ⟨hc, ho⟩ | ⟨hc, ho⟩⟩
  · subst hc ho
    rw [z_ends0]
    exact ⟨Or.inr (Or.inr ⟨rfl, rfl⟩), J2⟩
  · exact absurd hc h1
  · subst hc ho hs
    rw [z_ends2 (by decide)]
    exact ⟨Or.inr (Or.inl ⟨rfl, rfl⟩), J2⟩
  · subst hc ho hs
    rw [z_ends3 (by decide)]
    exact ⟨Or.inl ⟨rfl, rfl⟩, J2⟩
theorem p_move : z_P_move := by
  intro t hs se sf s s1 nx kp rw ic fi lc fl al cg sv ad ln lz ip ty ea fa rs xa ht J
  obtain ⟨hop, -⟩ := o_reply (B := 15 * t) J.1 J.r10 rs xa 0
  have hch := z_change J (by omega) hop
  have eA : x_am_move s nx kp rw xa = x_am_change s nx kp rw 7 xa 0 := by
    unfold x_am_move
    rcases x_am_change s nx kp rw 7 xa 0 with ⟨o, r⟩
    cases o <;> rfl
  have eM : x_mo_move al cg rs s.1 s.2.2.2.2.2.2.2.2.1 xa = (let q := x_mo_replies (x_cp al 0 10) rs s.1 s.2.2.2.2.2.2.2.2.1 xa; ((x_mo_ends q.2.1 cg q.2.2.1 q.1 2 3 1).1, (x_mo_ends q.2.1 cg q.2.2.1 q.1 2 3 1).2.1, (x_mo_ends q.2.1 cg q.2.2.1 q.1 2 3 1).2.2.1, (x_mo_ends q.2.1 cg q.2.2.1 q.1 2 3 1).2.2.2, q.2.2.1)) := rfl
  rw [eA, eM, x_am_change_eq J.nx8 J.kp8]
  dsimp only
  have kc := J.kc
  have hlm : s.2.2.2.2.2.2.2.2.1 ≠ 0 → 0 < x_pl s.1 al (al (39 + s.2.2.2.2.2.2.2.2.1 - 1)) := fun hm => by
    obtain ⟨-, v, -, e, -⟩ := z_last J.1 J.2.1 hm
    omega
  refine ⟨hlm, ?_⟩
  clear hlm
  clear hop
  generalize x_mo_replies (x_cp al 0 10) rs s.1 s.2.2.2.2.2.2.2.2.1 xa = q at hch ⊢
  generalize x_apply 7 xa 0 s = y at hch ⊢
  obtain ⟨c, al1, rs1, mn1⟩ := q
  obtain ⟨o, s2⟩ := y
  dsimp only at hch ⊢
  rcases hch with ⟨hc, ho, J2⟩ | ⟨hs, J2, ⟨hc, ho⟩ | ⟨hc, ho⟩ | ⟨hc, ho⟩⟩
  · subst hc ho
    rw [z_ends0]
    exact ⟨Or.inr (Or.inr (Or.inr ⟨rfl, rfl⟩)), J2⟩
  · subst hc ho hs
    rw [z_ends1 (by decide)]
    exact ⟨Or.inr (Or.inl ⟨rfl, rfl⟩), J2⟩
  · subst hc ho hs
    rw [z_ends2 (by decide)]
    exact ⟨Or.inr (Or.inr (Or.inl ⟨rfl, rfl⟩)), J2⟩
  · subst hc ho hs
    rw [z_ends3 (by decide)]
    exact ⟨Or.inl ⟨rfl, rfl⟩, J2⟩
theorem p_takeBack : z_P_takeBack := by
  intro t hs se sf s s1 nx kp rw ic fi lc fl al cg sv ad ln lz ip ty ea fa rs  ht J
  obtain ⟨hop, h1, -⟩ := o_takes (B := 15 * t) J.1 J.r10 rs 0 0
  have hch := z_change J (by omega) hop
  have eA : x_am_takeBack s nx kp rw = x_am_change s nx kp rw 8 0 0 := by
    unfold x_am_takeBack
    rcases x_am_change s nx kp rw 8 0 0 with ⟨o, r⟩
    cases o <;> rfl
  have eM : x_mo_takeBack al cg rs s.2.2.2.2.2.2.2.2.1 = (let q := x_mo_takes (x_cp al 0 10) rs s.2.2.2.2.2.2.2.2.1; ((x_mo_ends q.2.1 cg q.2.2.1 q.1 0 2 1).1, (x_mo_ends q.2.1 cg q.2.2.1 q.1 0 2 1).2.1, (x_mo_ends q.2.1 cg q.2.2.1 q.1 0 2 1).2.2.1, (x_mo_ends q.2.1 cg q.2.2.1 q.1 0 2 1).2.2.2, q.2.2.1)) := rfl
  rw [eA, eM, x_am_change_eq J.nx8 J.kp8]
  dsimp only
  have kc := J.kc
  clear hop
  generalize x_mo_takes (x_cp al 0 10) rs s.2.2.2.2.2.2.2.2.1 = q at hch h1 ⊢
  generalize x_apply 8 0 0 s = y at hch ⊢
  obtain ⟨c, al1, rs1, mn1⟩ := q
  obtain ⟨o, s2⟩ := y
  dsimp only at hch h1 ⊢
  rcases hch with ⟨hc, ho, J2⟩ | ⟨hs, J2, ⟨hc, ho⟩ | ⟨hc, ho⟩ | ⟨hc, ho⟩⟩
  · subst hc ho
    rw [z_ends0]
    exact ⟨Or.inr (Or.inr ⟨rfl, rfl⟩), J2⟩
  · exact absurd hc h1
  · subst hc ho hs
    rw [z_ends2 (by decide)]
    exact ⟨Or.inr (Or.inl ⟨rfl, rfl⟩), J2⟩
  · subst hc ho hs
    rw [z_ends3 (by decide)]
    exact ⟨Or.inl ⟨rfl, rfl⟩, J2⟩
theorem p_endDialogue : z_P_endDialogue := by
  intro t hs se sf s s1 nx kp rw ic fi lc fl al cg sv ad ln lz ip ty ea fa rs  ht J
  obtain ⟨hop, h1, h2, -⟩ := o_closes (B := 15 * t) J.1 J.r10 rs 0 0
  have hch := z_change J (by omega) hop
  have eA : x_am_endDialogue s nx kp rw = (match x_am_change s nx kp rw 9 0 0 with | (.inl v, r) => (.inl ((v).toUInt32 % 65536).toInt32, r) | (.inr e, r) => (.inr e, r)) := by
    unfold x_am_endDialogue
    rcases x_am_change s nx kp rw 9 0 0 with ⟨o, r⟩
    cases o <;> rfl
  have eM : x_mo_endDialogue al cg rs s.2.2.2.2.2.2.2.2.1 = (let q := x_mo_closes (x_cp al 0 10) rs s.2.2.2.2.2.2.2.2.1; (((x_mo_ends q.2.1 cg q.2.2.1 q.1 0 0 1).1.toUInt32 % 65536).toInt32, (x_mo_ends q.2.1 cg q.2.2.1 q.1 0 0 1).2.1, (x_mo_ends q.2.1 cg q.2.2.1 q.1 0 0 1).2.2.1, (x_mo_ends q.2.1 cg q.2.2.1 q.1 0 0 1).2.2.2, q.2.2.1)) := rfl
  rw [eA, eM, x_am_change_eq J.nx8 J.kp8]
  dsimp only
  have kc := J.kc
  clear hop
  generalize x_mo_closes (x_cp al 0 10) rs s.2.2.2.2.2.2.2.2.1 = q at hch h1 h2 ⊢
  generalize x_apply 9 0 0 s = y at hch ⊢
  obtain ⟨c, al1, rs1, mn1⟩ := q
  obtain ⟨o, s2⟩ := y
  dsimp only at hch h1 h2 ⊢
  rcases hch with ⟨hc, ho, J2⟩ | ⟨hs, J2, ⟨hc, ho⟩ | ⟨hc, ho⟩ | ⟨hc, ho⟩⟩
  · subst hc ho
    rw [z_ends0]
    exact ⟨Or.inr ⟨rfl, rfl⟩, J2⟩
  · exact absurd hc h1
  · exact absurd hc h2
  · subst hc ho hs
    rw [z_ends3 (by decide)]
    exact ⟨Or.inl ⟨rfl, rfl⟩, J2⟩
theorem p_pass : z_P_pass := by
  intro t hs se sf s s1 nx kp rw ic fi lc fl al cg sv ad ln lz ip ty ea fa rs bf xa ht J
  obtain ⟨hop, h2, h3⟩ := o_passes (B := 15 * t) J.1 J.r10 rs xa 0 bf
  have hch := z_change J (by omega) hop
  have eA : x_am_pass s nx kp rw xa = x_am_change s nx kp rw 10 xa 0 := by
    unfold x_am_pass
    rcases x_am_change s nx kp rw 10 xa 0 with ⟨o, r⟩
    cases o <;> rfl
  have eM : x_mo_pass al cg rs bf s.1 xa = (let q := x_mo_passes (x_cp al 0 10) rs bf s.1 xa; ((x_mo_ends q.2.1 cg q.2.2.1 q.1 1 0 0).1, (x_mo_ends q.2.1 cg q.2.2.1 q.1 1 0 0).2.1, (x_mo_ends q.2.1 cg q.2.2.1 q.1 1 0 0).2.2.1, (x_mo_ends q.2.1 cg q.2.2.1 q.1 1 0 0).2.2.2, q.2.2.1, q.2.2.2)) := rfl
  rw [eA, eM, x_am_change_eq J.nx8 J.kp8]
  dsimp only
  have kc := J.kc
  clear hop
  generalize x_mo_passes (x_cp al 0 10) rs bf s.1 xa = q at hch h2 h3 ⊢
  generalize x_apply 10 xa 0 s = y at hch ⊢
  obtain ⟨c, al1, rs1, bf1⟩ := q
  obtain ⟨o, s2⟩ := y
  dsimp only at hch h2 h3 ⊢
  rcases hch with ⟨hc, ho, J2⟩ | ⟨hs, J2, ⟨hc, ho⟩ | ⟨hc, ho⟩ | ⟨hc, ho⟩⟩
  · subst hc ho
    rw [z_ends0]
    exact ⟨Or.inr ⟨rfl, rfl⟩, J2⟩
  · subst hc ho hs
    rw [z_ends1 (by decide)]
    exact ⟨Or.inl ⟨rfl, rfl⟩, J2⟩
  · exact absurd hc h2
  · exact absurd hc h3