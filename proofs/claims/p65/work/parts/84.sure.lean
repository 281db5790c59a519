theorem z_J.adm {t : Nat} {hs : Bool} {se : Int32} {sf : Int32} {s : ZS} {s1 : ZS} {nx : Nat} {kp : Nat} {rw : Nat → ZS} {ic : Nat} {fi : Nat → Int32} {lc : Nat} {fl : Nat → Int32} {al : Nat → Int32} {cg : Nat} {sv : Bool} {ad ad' : Nat → Int32} {ln : Nat → Int32} {lz : Nat} {ip : Nat → Int32} {ty : Nat} {ea : Int32} {fa : Int32} (J : z_J t hs se sf s s1 nx kp rw ic fi lc fl al cg sv ad ln lz ip ty ea fa) (h : z_01 ad') : z_J t hs se sf s s1 nx kp rw ic fi lc fl al cg sv ad' ln lz ip ty ea fa := by
  obtain ⟨a1, a2, a3, a4, a5, a6, a7, a8, a9, a10, a11, r⟩ := J
  exact ⟨a1, a2, a3, a4, a5, a6, a7, a8, a9, a10, h, r⟩
theorem z_J.ad01 {t : Nat} {hs : Bool} {se : Int32} {sf : Int32} {s : ZS} {s1 : ZS} {nx : Nat} {kp : Nat} {rw : Nat → ZS} {ic : Nat} {fi : Nat → Int32} {lc : Nat} {fl : Nat → Int32} {al : Nat → Int32} {cg : Nat} {sv : Bool} {ad : Nat → Int32} {ln : Nat → Int32} {lz : Nat} {ip : Nat → Int32} {ty : Nat} {ea : Int32} {fa : Int32} (J : z_J t hs se sf s s1 nx kp rw ic fi lc fl al cg sv ad ln lz ip ty ea fa) : z_01 ad := J.2.2.2.2.2.2.2.2.2.2.1
theorem z_cst {B : Nat} {al ad : Nat → Int32} {s : ZS} (W : z_wfB B s) (R : z_R al 0 s) (had : z_01 ad) (pf cv : Nat → Int32) (sc : Nat) (xid xo : Int32) : z_ag [("java/util/NoSuchElementException", 1)] (q_oB ((x_am_canStandTogether s.1 s.2.1 s.2.2.2.2.2.1 pf cv sc xid xo).1)) ((x_mo_canStandTogether al ad s.1 xid xo).2.1) (.int (z_b ((x_mo_canStandTogether al ad s.1 xid xo).1))) ∧ z_01 (x_mo_canStandTogether al ad s.1 xid xo).2.2 := by
  unfold x_am_canStandTogether x_mo_canStandTogether x_ath
  rcases z_find R xid with ⟨a, b, c⟩ | ⟨v, hv, a, b, c, d⟩
  · rw [a, c]
    exact ⟨Or.inl ⟨rfl, rfl⟩, had⟩
  · rcases z_find R xo with ⟨a2, b2, c2⟩ | ⟨v2, hv2, a2, b2, c2, d2⟩
    · rw [b, a2, c, c2]
      exact ⟨Or.inl ⟨rfl, rfl⟩, had⟩
    · rw [a, b, c, a2, b2, c2, Nat.add_sub_cancel, Nat.add_sub_cancel]
      have h := z_prefW (ad := ad) (pf := pf) (cv := cv) W.1 (fun j hj => z_att W R hj) (z_attS W) (((1 : Int32) <<< ((nI v) &&& 31)) ||| ((1 : Int32) <<< ((nI v2) &&& 31)))
      have h01 : z_01 (x_mo_preferredWith al ad s.1 (((1 : Int32) <<< ((nI v) &&& 31)) ||| ((1 : Int32) <<< ((nI v2) &&& 31)))).2 := z_fadm01 had
      generalize x_mo_preferredWith al ad s.1 (((1 : Int32) <<< ((nI v) &&& 31)) ||| ((1 : Int32) <<< ((nI v2) &&& 31))) = p at h h01
      generalize x_ex_find pf cv s.1 s.2.2.2.2.2.1 = q at h
      obtain ⟨p1, p2⟩ := p
      obtain ⟨q1, q2, q3⟩ := q
      dsimp only at h h01 ⊢
      rw [h]
      by_cases e : p1 ≤ 0
      · rw [if_pos e, Bool.and_self, if_pos rfl, if_pos e, if_pos rfl]
        exact ⟨Or.inr ⟨rfl, rfl⟩, h01⟩
      · rw [if_neg e, Bool.and_self, if_pos rfl, if_neg e, if_pos rfl]
        exact ⟨Or.inr ⟨rfl, rfl⟩, h01⟩
theorem z_orself (x : Int32) : x ||| x = x := z_bi_ext fun j _ => by rw [z_bi_or, Bool.or_self]
theorem z_crEq {al ad : Nat → Int32} {n : Nat} (xid : Int32) : x_mo_canStandTogether al ad n xid xid = x_mo_isCredible al ad n xid := by
  unfold x_mo_canStandTogether x_mo_isCredible x_ath
  rw [Bool.and_self, z_orself]
