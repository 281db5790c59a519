theorem z_capd {x d : Nat} (hx : x ≤ 90) (hd : d ≤ 90) : (if nI x + nI d < 90 then nI x + nI d else 90) = nI (min (x + d) 90) := by
  rw [nI_add]
  have h : nI (x + d) < 90 ↔ x + d < 90 := nI_ltI (b := 90) (by omega) (by omega)
  by_cases l : x + d < 90
  · rw [if_pos (h.mpr l), Nat.min_eq_left (by omega)]
  · rw [if_neg (fun c => l (h.mp c)), Nat.min_eq_right (by omega)]
    rfl
/-- the ages after some days -/
def z_agd (s : ZS) (d : Nat) (f : Nat → Int32) : Prop := ∀ j, j < s.1 → ∃ a, a ≤ 90 ∧ s.2.2.2.1 j = nI a ∧ f j = nI (min (a + d) 90)
theorem z_agd0 {B : Nat} {s : ZS} (W : z_wfB B s) {f : Nat → Int32} (h : ∀ j, j < s.1 → f j = s.2.2.2.1 j) : z_agd s 0 f := fun j hj => by
  obtain ⟨a, ha, e⟩ := W.2.2.2.2.2.1 j hj
  exact ⟨a, ha, e, by rw [h j hj, e, Nat.add_zero, Nat.min_eq_left ha]⟩
theorem z_agdK {B : Nat} {s : ZS} (W : z_wfB B s) {d : Nat} (hd : d ≤ 90) : z_agd s d (x_st_age_12 (nI d) s.1 0 s.2.2.2.1) := fun j hj => by
  obtain ⟨a, ha, e⟩ := W.2.2.2.2.2.1 j hj
  refine ⟨a, ha, e, ?_⟩
  rw [z_age12, if_pos (by omega : 0 ≤ j ∧ j < 0 + s.1), e]
  exact z_capd ha hd
theorem z_agdS {s : ZS} {d : Nat} {f : Nat → Int32} (h : z_agd s d f) (hd : d < 90) : z_agd s (d + 1) (x_st_age_12 1 s.1 0 f) := fun j hj => by
  obtain ⟨a, ha, e, e2⟩ := h j hj
  refine ⟨a, ha, e, ?_⟩
  rw [z_age12, if_pos (by omega : 0 ≤ j ∧ j < 0 + s.1), e2]
  refine (z_capd (x := min (a + d) 90) (d := 1) (Nat.min_le_right _ _) (by omega)).trans ?_
  congr 1
  omega
theorem z_agdU {s : ZS} {d : Nat} {f g : Nat → Int32} (h1 : z_agd s d f) (h2 : z_agd s d g) : ∀ j, j < s.1 → f j = g j := fun j hj => by
  obtain ⟨a, ha, e, e2⟩ := h1 j hj
  obtain ⟨b, hb, f1, f2⟩ := h2 j hj
  have e3 : a = b := (nI_eq (by omega) (by omega)).mp (e.symm.trans f1)
  rw [e2, f2, e3]
/-- the reference's attackers after some days are those of the class's copy that is as old -/
theorem z_attD {B : Nat} {al : Nat → Int32} {s : ZS} (W : z_wfB B s) (R : z_R al 0 s) {d : Nat} (hd : d ≤ 90) {wt ag tg att : Nat → Int32} (hw : ∀ j, j < s.1 → wt j = s.2.2.1 j) (ht : ∀ j, j < s.1 → tg j = s.2.2.2.2.1 j) (ha : z_agd s d ag) (hat : ∀ j, j < s.1 → att j = x_st_findAttackers_17 wt ag tg j s.1 0 0) : ∀ j, j < s.1 → x_mo_attackers (x_mo_ages al s.1 (nI d)) s.1 j = att j := fun j hj => by
  obtain ⟨R2, W2, -⟩ := z_aged W R hd
  have e1 : x_mo_attackers (x_mo_ages al s.1 (nI d)) s.1 j = (z_agedS s (nI d)).2.2.2.2.2.1 j := z_att W2 R2 hj
  have e2 : (z_agedS s (nI d)).2.2.2.2.2.1 j = x_st_findAttackers_17 s.2.2.1 (x_st_age_12 (nI d) s.1 0 s.2.2.2.1) s.2.2.2.2.1 j s.1 0 0 := z_fa5 hj
  rw [e1, e2, hat j hj]
  exact (z_faC hj (fun i hi => ⟨hw i hi, z_agdU ha (z_agdK W hd) i hi, ht i hi⟩) s.1 0 0 (by omega)).symm
theorem z_labelsG {al att : Nat → Int32} {n : Nat} (hn : n ≤ 8) (hA : ∀ j, j < n → x_mo_attackers al n j = att j) (co ro : Nat → Int32) : (x_lb_give co n att).1 = (x_mo_labelsAll al n ro).1 ∧ (x_lb_give co n att).2.1 = (x_mo_labelsAll al n ro).2.1 ∧ z_sub n 0 ((x_mo_labelsAll al n ro).1 ||| (x_mo_labelsAll al n ro).2.1) :=
  have h := z_give hn hA n 8 (n + 1) 1 0 0 co ro (fun j hj q => by rw [z_bi_or, z_bi_0] at q; cases q) (by omega) (by omega) hn (fun j hj q => by rw [z_bi_or, z_bi_0] at q; cases q)
  ⟨h.1, h.2.1, h.2.2.1⟩
theorem z_sh8 : ∀ b, b < 256 → nI b <<< ((8 : Int32) &&& 31) = nI (2 ^ 8 * b) := by decide +kernel
theorem z_pack {n : Nat} {a b a' b' : Int32} (hn : n ≤ 8) (h : z_sub n 0 (a ||| b)) (h' : z_sub n 0 (a' ||| b')) : a ||| (b <<< ((8 : Int32) &&& 31)) = a' ||| (b' <<< ((8 : Int32) &&& 31)) ↔ a = a' ∧ b = b' := by
  have hb : z_sub n 0 b := fun j hj q => h j hj (by rw [z_bi_or, q, Bool.or_true])
  have hb' : z_sub n 0 b' := fun j hj q => h' j hj (by rw [z_bi_or, q, Bool.or_true])
  obtain ⟨x, hx, rfl⟩ := z_sub8 hn (z_subL h)
  obtain ⟨y, hy, rfl⟩ := z_sub8 hn hb
  obtain ⟨x', hx', rfl⟩ := z_sub8 hn (z_subL h')
  obtain ⟨y', hy', rfl⟩ := z_sub8 hn hb'
  rw [z_sh8 y hy, z_sh8 y' hy', nI_or, nI_or, Nat.or_comm, Nat.or_comm x', ← Nat.two_pow_add_eq_or_of_lt (i := 8) hx, ← Nat.two_pow_add_eq_or_of_lt (i := 8) hx', nI_eq (by omega) (by omega), nI_eq (by omega) (by omega), nI_eq (by omega) (by omega)]
  constructor
  · intro q
    exact ⟨by omega, by omega⟩
  · rintro ⟨rfl, rfl⟩
    rfl
theorem z_J.al' {t : Nat} {hs : Bool} {se : Int32} {sf : Int32} {s : ZS} {s1 : ZS} {nx : Nat} {kp : Nat} {rw : Nat → ZS} {ic : Nat} {fi : Nat → Int32} {lc : Nat} {fl : Nat → Int32} {al al' : Nat → Int32} {cg : Nat} {sv : Bool} {ad : Nat → Int32} {ln : Nat → Int32} {lz : Nat} {ip : Nat → Int32} {ty : Nat} {ea : Int32} {fa : Int32} (J : z_J t hs se sf s s1 nx kp rw ic fi lc fl al cg sv ad ln lz ip ty ea fa) (h : ∀ i, i < 510 → al' i = al i) : z_J t hs se sf s s1 nx kp rw ic fi lc fl al' cg sv ad ln lz ip ty ea fa := by
  obtain ⟨a1, a2, a3, a4, a5, a6, a7, a8, r⟩ := J
  exact ⟨a1, a2.congr a1.1 a1.2.1 (fun i hi => h _ (by omega)), a3, fun q => ⟨(a4 q).1, (a4 q).2.congr (a4 q).1.1 (a4 q).1.2.1 (fun i hi => h _ (by omega))⟩, a5, a6, a7, fun i hi => ⟨(a8 i hi).1, (a8 i hi).2.congr (a8 i hi).1.1 (a8 i hi).1.2.1 (fun j hj => h _ (by omega))⟩, r⟩
theorem z_R11 {B : Nat} {al : Nat → Int32} {s : ZS} (W : z_wfB B s) (R : z_R al 0 s) : z_R (x_cp al 0 11) 0 s := z_R.cpNe (u := 0) R W.1 W.2.1 (by omega)
theorem z_back {B : Nat} {al : Nat → Int32} {s : ZS} (W : z_wfB B s) (R : z_R al 0 s) {d : Nat} (hd : d ≤ 90) : ∀ i, i < 510 → x_cp (x_mo_ages (x_cp al 0 11) s.1 (nI d)) 11 0 i = al i := fun i hi => by
  have h51 := (z_aged W (z_R11 W R) hd).2.2
  by_cases l : i < 51
  · have e1 : x_cp (x_mo_ages (x_cp al 0 11) s.1 (nI d)) 11 0 i = x_mo_ages (x_cp al 0 11) s.1 (nI d) (51 * 11 + i) := by
      have := x_cp_in (al := x_mo_ages (x_cp al 0 11) s.1 (nI d)) (f := 11) (t := 0) (k := i) l
      rwa [Nat.mul_zero, Nat.zero_add] at this
    have e2 : x_cp al 0 11 (51 * 11 + i) = al i := by
      have := x_cp_in (al := al) (f := 0) (t := 11) (k := i) l
      rwa [Nat.mul_zero, Nat.zero_add] at this
    rw [e1, h51 _ (by omega), e2]
  · rw [x_cp_ne (by omega), h51 _ (by omega), x_cp_ne (by omega)]
/-- the class's copy, as laid -/
theorem z_cpsW {s d : ZS} {j : Nat} (hn : s.1 ≤ 8) (hj : j < s.1) : (z_cps s d).2.2.1 j = s.2.2.1 j ∧ (z_cps s d).2.2.2.1 j = s.2.2.2.1 j ∧ (z_cps s d).2.2.2.2.1 j = s.2.2.2.2.1 j := ⟨z_cpy (by omega), z_cpy (by omega), z_cpy (by omega)⟩
theorem z_la {al ro : Nat → Int32} {n : Nat} {xd : Int32} : x_mo_labelsAfter al ro n xd = ((x_mo_labelsAll (x_mo_ages (x_cp al 0 11) n xd) n ro).1 ||| ((x_mo_labelsAll (x_mo_ages (x_cp al 0 11) n xd) n ro).2.1 <<< ((8 : Int32) &&& 31)), x_cp (x_mo_ages (x_cp al 0 11) n xd) 11 0, (x_mo_labelsAll (x_mo_ages (x_cp al 0 11) n xd) n ro).1, (x_mo_labelsAll (x_mo_ages (x_cp al 0 11) n xd) n ro).2.1, (x_mo_labelsAll (x_mo_ages (x_cp al 0 11) n xd) n ro).2.2) := rfl
theorem z_duc {B : Nat} {s : ZS} (W : z_wfB B s) {a0 j0 : Int32} (h0 : z_sub s.1 0 (a0 ||| j0)) {id wt tg mv : Nat → Int32} {ni en wo br : Int32} {mn : Nat} (hw : ∀ j, j < s.1 → wt j = s.2.2.1 j) (htg : ∀ j, j < s.1 → tg j = s.2.2.2.2.1 j) : ∀ r k al ac rj ro ac' rj' co ag att dy, k + r = 91 → 1 ≤ k → z_R al 0 s → z_agd s (k - 1) ag →
    (∀ i, i < 510 → (x_mo_daysUntilChange_8 s.1 (a0 ||| (j0 <<< ((8 : Int32) &&& 31))) r k ac al rj ro).2.2.1 i = al i) ∧
    (((∃ z, x_am_daysUntilChange_40 a0 j0 s.1 id wt tg ni mn mv en wo br r k ac' rj' co ag att dy = .inl z) ∧ (x_mo_daysUntilChange_8 s.1 (a0 ||| (j0 <<< ((8 : Int32) &&& 31))) r k ac al rj ro).1 = 91) ∨
    ∃ d z, d ≤ 90 ∧ x_am_daysUntilChange_40 a0 j0 s.1 id wt tg ni mn mv en wo br r k ac' rj' co ag att dy = .inr (.inl (nI d), z) ∧ (x_mo_daysUntilChange_8 s.1 (a0 ||| (j0 <<< ((8 : Int32) &&& 31))) r k ac al rj ro).1 = d) := by
  have h8 := W.1
  intro r
  induction r with
  | zero =>
    intro k al ac rj ro ac' rj' co ag att dy hk _ _ _
    exact ⟨fun i _ => rfl, Or.inl ⟨⟨_, rfl⟩, by show k = 91; omega⟩⟩
  | succ r ih =>
    intro k al ac rj ro ac' rj' co ag att dy hk hk1 R hag
    have hk90 : k ≤ 90 := by omega
    have hag2 : z_agd s k (x_st_age_12 1 s.1 0 ag) := by
      have h := z_agdS hag (by omega)
      rwa [Nat.sub_add_cancel hk1] at h
    have hA := z_attD W (z_R11 W R) hk90 (wt := wt) (ag := x_st_age_12 1 s.1 0 ag) (tg := tg) (att := (x_st_findAttackers s.1 wt (x_st_age_12 1 s.1 0 ag) tg att).2) hw htg hag2 (fun j hj => z_fa5 hj)
    obtain ⟨l1, l2, l3⟩ := z_labelsG h8 hA co ro
    have hb := z_back W R hk90
    have uC : x_am_daysUntilChange_40 a0 j0 s.1 id wt tg ni mn mv en wo br (r + 1) k ac' rj' co ag att dy = (if (x_lb_give co s.1 (x_st_findAttackers s.1 wt (x_st_age_12 1 s.1 0 ag) tg att).2).1 = a0 then (if (x_lb_give co s.1 (x_st_findAttackers s.1 wt (x_st_age_12 1 s.1 0 ag) tg att).2).2.1 = j0 then x_am_daysUntilChange_40 a0 j0 s.1 id wt tg ni mn mv en wo br r (k + 1) (x_lb_give co s.1 (x_st_findAttackers s.1 wt (x_st_age_12 1 s.1 0 ag) tg att).2).1 (x_lb_give co s.1 (x_st_findAttackers s.1 wt (x_st_age_12 1 s.1 0 ag) tg att).2).2.1 (x_lb_give co s.1 (x_st_findAttackers s.1 wt (x_st_age_12 1 s.1 0 ag) tg att).2).2.2 (x_st_age_12 1 s.1 0 ag) (x_st_findAttackers s.1 wt (x_st_age_12 1 s.1 0 ag) tg att).2 (dy + 1) else .inr (.inl (nI k), s.1, id, wt, x_st_age_12 1 s.1 0 ag, tg, (x_st_findAttackers s.1 wt (x_st_age_12 1 s.1 0 ag) tg att).2, ni, dy + 1, mn, mv, en, wo, br, (x_lb_give co s.1 (x_st_findAttackers s.1 wt (x_st_age_12 1 s.1 0 ag) tg att).2).1, (x_lb_give co s.1 (x_st_findAttackers s.1 wt (x_st_age_12 1 s.1 0 ag) tg att).2).2.1, (x_lb_give co s.1 (x_st_findAttackers s.1 wt (x_st_age_12 1 s.1 0 ag) tg att).2).2.2)) else .inr (.inl (nI k), s.1, id, wt, x_st_age_12 1 s.1 0 ag, tg, (x_st_findAttackers s.1 wt (x_st_age_12 1 s.1 0 ag) tg att).2, ni, dy + 1, mn, mv, en, wo, br, (x_lb_give co s.1 (x_st_findAttackers s.1 wt (x_st_age_12 1 s.1 0 ag) tg att).2).1, (x_lb_give co s.1 (x_st_findAttackers s.1 wt (x_st_age_12 1 s.1 0 ag) tg att).2).2.1, (x_lb_give co s.1 (x_st_findAttackers s.1 wt (x_st_age_12 1 s.1 0 ag) tg att).2).2.2)) := rfl
    have uM : x_mo_daysUntilChange_8 s.1 (a0 ||| (j0 <<< ((8 : Int32) &&& 31))) (r + 1) k ac al rj ro = (match x_mo_labelsAfter al ro s.1 (nI k) with | (v3, y3_al, y3_ac, y3_rj, y3_ro) => (if (v3) = (a0 ||| (j0 <<< ((8 : Int32) &&& 31))) then x_mo_daysUntilChange_8 s.1 (a0 ||| (j0 <<< ((8 : Int32) &&& 31))) r (k + 1) y3_ac y3_al y3_rj y3_ro else (k, y3_ac, y3_al, y3_rj, y3_ro))) := rfl
    rw [uC, uM, z_la]
    dsimp only
    have hp := z_pack (a' := a0) (b' := j0) h8 l3 h0
    rw [l1, l2]
    by_cases e : (x_mo_labelsAll (x_mo_ages (x_cp al 0 11) s.1 (nI k)) s.1 ro).1 = a0 ∧ (x_mo_labelsAll (x_mo_ages (x_cp al 0 11) s.1 (nI k)) s.1 ro).2.1 = j0
    · rw [if_pos e.1, if_pos e.2, if_pos (hp.mpr e)]
      obtain ⟨i1, i2⟩ := ih (k + 1) (x_cp (x_mo_ages (x_cp al 0 11) s.1 (nI k)) 11 0) (x_mo_labelsAll (x_mo_ages (x_cp al 0 11) s.1 (nI k)) s.1 ro).1 (x_mo_labelsAll (x_mo_ages (x_cp al 0 11) s.1 (nI k)) s.1 ro).2.1 (x_mo_labelsAll (x_mo_ages (x_cp al 0 11) s.1 (nI k)) s.1 ro).2.2 (x_mo_labelsAll (x_mo_ages (x_cp al 0 11) s.1 (nI k)) s.1 ro).1 (x_mo_labelsAll (x_mo_ages (x_cp al 0 11) s.1 (nI k)) s.1 ro).2.1 (x_lb_give co s.1 (x_st_findAttackers s.1 wt (x_st_age_12 1 s.1 0 ag) tg att).2).2.2 (x_st_age_12 1 s.1 0 ag) (x_st_findAttackers s.1 wt (x_st_age_12 1 s.1 0 ag) tg att).2 (dy + 1) (by omega) (by omega) (R.congr W.1 W.2.1 (fun i hi => hb _ (by omega))) hag2
      exact ⟨fun i hi => (i1 i hi).trans (hb i hi), i2⟩
    · rw [if_neg (fun c => e (hp.mp c))]
      refine ⟨hb, Or.inr ?_⟩
      by_cases e1 : (x_mo_labelsAll (x_mo_ages (x_cp al 0 11) s.1 (nI k)) s.1 ro).1 = a0
      · rw [if_pos e1, if_neg (fun c => e ⟨e1, c⟩)]
        exact ⟨k, _, hk90, rfl, rfl⟩
      · rw [if_neg e1]
        exact ⟨k, _, hk90, rfl, rfl⟩
