/-! what the class answers, of a state alone -/
def zAc (s : ZS) : Int32 := (x_lb_give (fun _ => 0) s.1 s.2.2.2.2.2.1).1
def zRj (s : ZS) : Int32 := (x_lb_give (fun _ => 0) s.1 s.2.2.2.2.2.1).2.1
def zRd (s : ZS) : Nat → Int32 := (x_lb_give (fun _ => 0) s.1 s.2.2.2.2.2.1).2.2
def zLt (s : ZS) (v : Nat) : Int32 := x_lb_letter (zAc s) (zRj s) v
def zStr (s : ZS) (v : Nat) : Int32 := x_st_strength s.2.2.1 s.2.2.2.1 v
def zBt (v : Nat) : Int32 := (1 : Int32) <<< (nI v &&& 31)
def zPW (s : ZS) (xs : Int32) : Int32 := x_ex_countPreferredWith (x_ex_find (fun _ => 0) (fun _ => 0) s.1 s.2.2.2.2.2.1).1 (x_ex_find (fun _ => 0) (fun _ => 0) s.1 s.2.2.2.2.2.1).2.2 xs
section ASKS
variable {B : Nat} {s : ZS}
theorem g_eq (V : z_V B s) (co : Nat → Int32) : (x_lb_give co s.1 s.2.2.2.2.2.1).1 = zAc s ∧ (x_lb_give co s.1 s.2.2.2.2.2.1).2.1 = zRj s ∧ ∀ j, j < s.1 → z_bi (zAc s ||| zRj s) j = true → (x_lb_give co s.1 s.2.2.2.2.2.1).2.2 j = zRd s j := by
  obtain ⟨a1, a2, a3, a4⟩ := z_labels V.1 V.R co (fun _ => 0)
  obtain ⟨b1, b2, b3, b4⟩ := z_labels V.1 V.R (fun _ => 0) (fun _ => 0)
  have e1 : zAc s = _ := b1
  have e2 : zRj s = _ := b2
  refine ⟨a1.trans b1.symm, a2.trans b2.symm, fun j hj q => ?_⟩
  rw [e1, e2] at q
  exact (a4 j hj q).trans (b4 j hj q).symm
theorem g_lab (V : z_V B s) : z_lab s.1 s.2.2.2.2.2.1 (zAc s) (zRj s) := by
  have e := z_labAll V.1 V.R (fun _ => 0)
  obtain ⟨b1, b2, -, -⟩ := z_labels V.1 V.R (fun _ => 0) (fun _ => 0)
  rw [← b1, ← b2] at e
  exact e
theorem g_sub (V : z_V B s) : z_sub s.1 0 (zAc s ||| zRj s) := by
  obtain ⟨b1, b2, b3, -⟩ := z_labels V.1 V.R (fun _ => 0) (fun _ => 0)
  have e1 : zAc s = _ := b1
  have e2 : zRj s = _ := b2
  rw [e1, e2]
  exact b3
theorem g_att (V : z_V B s) : ∀ j, j < s.1 → x_mo_attackers (zAl s) s.1 j = s.2.2.2.2.2.1 j := fun _ hj => z_att V.1 V.R hj
theorem u_status (V : z_V B s) {v : Nat} (hv : v < s.1) (ac rj : Int32) (co : Nat → Int32) : (x_am_status s.1 s.2.1 s.2.2.2.2.2.1 ac rj co (s.2.1 v)).1 = .inl (zLt s v) := by
  obtain ⟨a, b, -⟩ := g_eq V co
  unfold x_am_status zLt
  rw [V.slot hv]
  generalize x_lb_give co s.1 s.2.2.2.2.2.1 = t at a b
  obtain ⟨p, q, r⟩ := t
  dsimp only at a b ⊢
  rw [a, b]
theorem u_roundOf (V : z_V B s) {v : Nat} (hv : v < s.1) (ac rj : Int32) (co : Nat → Int32) : (x_am_roundOf s.1 s.2.1 s.2.2.2.2.2.1 ac rj co (s.2.1 v)).1 = if zLt s v = 117 then .inr "java/util/NoSuchElementException" else .inl (zRd s v) := by
  obtain ⟨a, b, c⟩ := g_eq V co
  have h8 := V.1.1
  unfold x_am_roundOf zLt
  rw [V.slot hv]
  generalize x_lb_give co s.1 s.2.2.2.2.2.1 = t at a b c
  obtain ⟨p, q, r⟩ := t
  dsimp only at a b c ⊢
  rw [a, b]
  by_cases e : x_lb_letter (zAc s) (zRj s) v = 117
  · rw [if_pos e, if_pos e]
  · rw [if_neg e, if_neg e]
    have hb : z_bi (zAc s ||| zRj s) v = true := by
      cases q9 : z_bi (zAc s ||| zRj s) v with
      | true => rfl
      | false => exact absurd ((z_let117 _ _ (by omega)).mpr ((z_bit0 _ (by omega)).mpr q9)) e
    rw [c v hv hb]
theorem g_won (V : z_V B s) {v : Nat} (hv : v < s.1) (won lost : Nat → Int32) : (x_ga_isWonByProponent won lost s.2.2.2.2.2.1 v).1 = z_bi (zAc s) v := by
  obtain ⟨b1, -, -, -⟩ := z_labels V.1 V.R (fun _ => 0) (fun _ => 0)
  have e1 : zAc s = _ := b1
  rw [e1]
  exact z_game V.1 V.R (fun _ => 0) won lost hv
theorem u_game (V : z_V B s) {v : Nat} (hv : v < s.1) (won lost : Nat → Int32) : (x_am_isAcceptedByGame s.1 s.2.1 s.2.2.2.2.2.1 won lost (s.2.1 v)).1 = .inl (z_bi (zAc s) v) := by
  have e := g_won V hv won lost
  unfold x_am_isAcceptedByGame
  rw [V.slot hv]
  exact congrArg Sum.inl e
theorem u_opp (V : z_V B s) {v : Nat} (hv : v < s.1) (won lost : Nat → Int32) : (x_am_canOpponentWin s.1 s.2.1 s.2.2.2.2.2.1 won lost (s.2.1 v)).1 = .inl (!z_bi (zAc s) v) := by
  have e := u_game V hv won lost
  unfold x_am_canOpponentWin
  generalize x_am_isAcceptedByGame s.1 s.2.1 s.2.2.2.2.2.1 won lost (s.2.1 v) = t at e
  obtain ⟨p, q, r⟩ := t
  dsimp only at e ⊢
  subst e
  dsimp only
  cases z_bi (zAc s) v <;> rfl
theorem u_accC (V : z_V B s) (co : Nat → Int32) : (x_am_acceptedCount s.1 s.2.2.2.2.2.1 co).1 = z_bc (zAc s) := congrArg z_bc (g_eq V co).1
theorem u_undC (V : z_V B s) (co : Nat → Int32) : (x_am_undecidedCount s.1 s.2.2.2.2.2.1 co).1 = nI s.1 - z_bc (zAc s ||| zRj s) := by
  obtain ⟨a, b, -⟩ := g_eq V co
  show nI s.1 - z_bc ((x_lb_give co s.1 s.2.2.2.2.2.1).1 ||| (x_lb_give co s.1 s.2.2.2.2.2.1).2.1) = _
  rw [a, b]
theorem u_share (V : z_V B s) (h0 : s.1 ≠ 0) (ac rj : Int32) (co : Nat → Int32) : (x_am_acceptedShare s.1 s.2.2.2.2.2.1 ac rj co).1 = .inl (FP.fdiv (FP.i2f (z_bc (zAc s))) (FP.i2f (nI s.1))) := by
  have e := u_accC V co
  unfold x_am_acceptedShare
  rw [if_neg h0]
  generalize x_am_acceptedCount s.1 s.2.2.2.2.2.1 co = t at e
  obtain ⟨p, q, r, u⟩ := t
  dsimp only at e ⊢
  rw [e]
theorem g_pref (V : z_V B s) (pf cv : Nat → Int32) (xs : Int32) : x_ex_countPreferredWith (x_ex_find pf cv s.1 s.2.2.2.2.2.1).1 (x_ex_find pf cv s.1 s.2.2.2.2.2.1).2.2 xs = zPW s xs :=
  (z_prefW (ad := fun _ => 0) V.1.1 (g_att V) (z_attS V.1) xs).trans (z_prefW (ad := fun _ => 0) V.1.1 (g_att V) (z_attS V.1) xs).symm
theorem u_prefC (V : z_V B s) (pf cv : Nat → Int32) : (x_am_preferredCount s.1 s.2.2.2.2.2.1 pf cv).1 = zPW s 0 := g_pref V pf cv 0
theorem u_tog (V : z_V B s) {v w : Nat} (hv : v < s.1) (hw : w < s.1) (pf cv : Nat → Int32) (sc : Nat) : (x_am_canStandTogether s.1 s.2.1 s.2.2.2.2.2.1 pf cv sc (s.2.1 v) (s.2.1 w)).1 = .inl (decide (¬ zPW s (zBt v ||| zBt w) ≤ 0)) := by
  have e := g_pref V pf cv (zBt v ||| zBt w)
  unfold x_am_canStandTogether
  rw [V.slot hv, V.slot hw]
  generalize x_ex_find pf cv s.1 s.2.2.2.2.2.1 = t at e
  obtain ⟨p, q, r⟩ := t
  dsimp only at e ⊢
  have e2 : x_ex_countPreferredWith p r (((1 : Int32) <<< ((nI v) &&& 31)) ||| ((1 : Int32) <<< ((nI w) &&& 31))) = zPW s (zBt v ||| zBt w) := e
  rw [e2]
  by_cases c : zPW s (zBt v ||| zBt w) ≤ 0
  · rw [if_pos c, decide_eq_false (fun z => z c)]
  · rw [if_neg c, decide_eq_true c]
theorem u_cred (V : z_V B s) {v : Nat} (hv : v < s.1) (pf cv : Nat → Int32) (sc : Nat) : (x_am_isCredible s.1 s.2.1 s.2.2.2.2.2.1 pf cv sc (s.2.1 v)).1 = .inl (decide (¬ zPW s (zBt v ||| zBt v) ≤ 0)) := by
  have e := u_tog V hv hv pf cv sc
  unfold x_am_isCredible
  generalize x_am_canStandTogether s.1 s.2.1 s.2.2.2.2.2.1 pf cv sc (s.2.1 v) (s.2.1 v) = t at e
  obtain ⟨p, q, r, u⟩ := t
  dsimp only at e ⊢
  subst e
  rfl
theorem u_cert (V : z_V B s) {v : Nat} (hv : v < s.1) (pf cv : Nat → Int32) (sc : Nat) : (x_am_isCertain s.1 s.2.1 s.2.2.2.2.2.1 pf cv sc (s.2.1 v)).1 = .inl (decide (zPW s (zBt v) = zPW s 0)) := by
  have e := g_pref V pf cv (zBt v)
  have e0 := g_pref V pf cv 0
  unfold x_am_isCertain
  rw [V.slot hv]
  generalize x_ex_find pf cv s.1 s.2.2.2.2.2.1 = t at e e0
  obtain ⟨p, q, r⟩ := t
  dsimp only at e e0 ⊢
  have e2 : x_ex_countPreferredWith p r ((1 : Int32) <<< ((nI v) &&& 31)) = zPW s (zBt v) := e
  rw [e2, e0]
  by_cases c : zPW s (zBt v) = zPW s 0
  · rw [if_pos c, decide_eq_true c]
  · rw [if_neg c, decide_eq_false c]
theorem u_has (V : z_V B s) {v w : Nat} (hv : v < s.1) (hw : w < s.1) : x_am_hasAttack s.1 s.2.1 s.2.2.2.2.1 (s.2.1 v) (s.2.1 w) = .inl (z_has (s.2.2.2.2.1 v) w) := by
  unfold x_am_hasAttack
  rw [V.slot hv, V.slot hw]
theorem u_suc (V : z_V B s) {v w : Nat} (hv : v < s.1) (hw : w < s.1) : x_am_isSuccessful s.1 s.2.1 s.2.2.2.2.1 s.2.2.2.2.2.1 (s.2.1 v) (s.2.1 w) = if z_has (s.2.2.2.2.1 v) w then .inl (z_has (s.2.2.2.2.2.1 w) v) else .inr "java/util/NoSuchElementException" := by
  unfold x_am_isSuccessful
  rw [V.slot hv, V.slot hw]
theorem u_atc (V : z_V B s) {v : Nat} (hv : v < s.1) : x_am_attackerCount s.1 s.2.1 s.2.2.2.2.2.1 (s.2.1 v) = .inl (z_bc (s.2.2.2.2.2.1 v)) := by
  unfold x_am_attackerCount
  rw [V.slot hv]
theorem u_wt (V : z_V B s) {v : Nat} (hv : v < s.1) : x_am_weightOf s.1 s.2.1 s.2.2.1 (s.2.1 v) = .inl (s.2.2.1 v) := by
  unfold x_am_weightOf
  rw [V.slot hv]
theorem u_ag (V : z_V B s) {v : Nat} (hv : v < s.1) : x_am_ageOf s.1 s.2.1 s.2.2.2.1 (s.2.1 v) = .inl (s.2.2.2.1 v) := by
  unfold x_am_ageOf
  rw [V.slot hv]
theorem u_str (V : z_V B s) {v : Nat} (hv : v < s.1) : x_am_strengthOf s.1 s.2.1 s.2.2.1 s.2.2.2.1 (s.2.1 v) = .inl (zStr s v) := by
  unfold x_am_strengthOf zStr
  rw [V.slot hv]
theorem u_idAt {n : Nat} {id : Nat → Int32} {k : Nat} (hk : k < n) (hn : n ≤ 8) : x_am_idAt n id (nI k) = .inl (id k) := by
  unfold x_am_idAt
  rw [if_neg (nI_pos (by omega)), if_pos ((nI_ltI (by omega) (by omega)).mpr hk), nI_clamp (by omega)]
theorem u_moveAt {n : Nat} {mv : Nat → Int32} {k : Nat} (hk : k < n) (hn : n ≤ 12) : x_am_moveAt n mv (nI k) = .inl (mv k) := by
  unfold x_am_moveAt
  rw [if_neg (nI_pos (by omega)), if_pos ((nI_ltI (by omega) (by omega)).mpr hk), nI_clamp (by omega)]
theorem u_moveN {n : Nat} {mv : Nat → Int32} (hn : n ≤ 12) : x_am_moveAt n mv (nI n) = .inr "java/lang/IndexOutOfBoundsException" := by
  unfold x_am_moveAt
  rw [if_neg (nI_pos (by omega)), if_neg (fun c => Nat.lt_irrefl n ((nI_ltI (by omega) (by omega)).mp c))]
theorem u_atA {id att : Nat → Int32} {v c j n : Nat} (hn : n ≤ 8) (hj : j < n) (hb : z_bi (att v) j = true) (hc : z_cn (att v) j = c) : ∀ r k, k + r = n → k ≤ j → x_am_attackerAt_23 id att (nI c) v r k (nI (z_cn (att v) k)) = .inr (.inl (id j)) := by
  intro r
  induction r with
  | zero =>
    intro k h1 h2
    omega
  | succ r ih =>
    intro k h1 h2
    have u : x_am_attackerAt_23 id att (nI c) v (r + 1) k (nI (z_cn (att v) k)) = (if z_has (att v) k then (if (nI (z_cn (att v) k)) = (nI c) then .inr (.inl (id k)) else x_am_attackerAt_23 id att (nI c) v r (k + 1) (nI (z_cn (att v) k) + (1))) else x_am_attackerAt_23 id att (nI c) v r (k + 1) (nI (z_cn (att v) k))) := rfl
    have g := z_cn_le (att v) k
    have g2 := z_cn_le (att v) j
    rw [u, z_has_bt _ (by omega)]
    by_cases e : k = j
    · subst e
      rw [if_pos hb, hc, if_pos rfl]
    · have step : nI (z_cn (att v) (k + 1)) = if z_bi (att v) k = true then nI (z_cn (att v) k) + 1 else nI (z_cn (att v) k) := by
        show nI (z_cn (att v) k + if z_bi (att v) k then 1 else 0) = _
        by_cases b : z_bi (att v) k = true
        · rw [if_pos b, if_pos b]
          exact (nI_add _ 1).symm
        · rw [if_neg b, if_neg b]
          rfl
      have i := ih (k + 1) (by omega) (by omega)
      rw [step] at i
      by_cases b : z_bi (att v) k = true
      · have lt : z_cn (att v) k < c := by
          rw [← hc]
          have key : ∀ m, k < m → z_cn (att v) k < z_cn (att v) m := by
            intro m
            induction m with
            | zero => intro q; omega
            | succ m im =>
              intro q
              show _ < z_cn (att v) m + if z_bi (att v) m then 1 else 0
              by_cases e9 : k = m
              · subst e9
                rw [if_pos b]
                omega
              · have := im (by omega)
                omega
          exact key j (by omega)
        rw [if_pos b] at i ⊢
        rw [if_neg (fun z => by
          have := (nI_eq (by omega) (by omega)).mp z
          omega)]
        exact i
      · rw [if_neg b] at i ⊢
        exact i
theorem u_atN {id att : Nat → Int32} {v n : Nat} (hn : n ≤ 8) : ∀ r k, k + r = n → x_am_attackerAt_23 id att (nI (z_cn (att v) n)) v r k (nI (z_cn (att v) k)) = .inl () := by
  intro r
  induction r with
  | zero =>
    intro k h1
    rfl
  | succ r ih =>
    intro k h1
    have u : x_am_attackerAt_23 id att (nI (z_cn (att v) n)) v (r + 1) k (nI (z_cn (att v) k)) = (if z_has (att v) k then (if (nI (z_cn (att v) k)) = (nI (z_cn (att v) n)) then .inr (.inl (id k)) else x_am_attackerAt_23 id att (nI (z_cn (att v) n)) v r (k + 1) (nI (z_cn (att v) k) + (1))) else x_am_attackerAt_23 id att (nI (z_cn (att v) n)) v r (k + 1) (nI (z_cn (att v) k))) := rfl
    have g := z_cn_le (att v) k
    have g2 := z_cn_le (att v) n
    rw [u, z_has_bt _ (by omega)]
    have i := ih (k + 1) (by omega)
    have mono : ∀ m, k + 1 ≤ m → z_cn (att v) (k + 1) ≤ z_cn (att v) m := by
      intro m
      induction m with
      | zero => intro q; omega
      | succ m im =>
        intro q
        by_cases e9 : k = m
        · subst e9
          exact Nat.le_refl _
        · exact Nat.le_trans (im (by omega)) (Nat.le_add_right _ _)
    have hm := mono n (by omega)
    by_cases b : z_bi (att v) k = true
    · have e1 : z_cn (att v) (k + 1) = z_cn (att v) k + 1 := by
        show z_cn (att v) k + (if z_bi (att v) k then 1 else 0) = _
        rw [if_pos b]
      rw [e1, ← nI_add] at i
      rw [if_pos b, if_neg (fun z => by
        have := (nI_eq (by omega) (by omega)).mp z
        omega)]
      exact i
    · have e1 : z_cn (att v) (k + 1) = z_cn (att v) k := by
        show z_cn (att v) k + (if z_bi (att v) k then 1 else 0) = _
        rw [if_neg b]
        rfl
      rw [e1] at i
      rw [if_neg b]
      exact i
theorem u_atA' (V : z_V B s) {v j : Nat} (hv : v < s.1) (hj : j < s.1) (hb : z_bi (s.2.2.2.2.2.1 v) j = true) : x_am_attackerAt s.1 s.2.1 s.2.2.2.2.2.1 (s.2.1 v) (nI (z_cn (s.2.2.2.2.2.1 v) j)) = .inl (s.2.1 j) := by
  have e := u_atA (id := s.2.1) (att := s.2.2.2.2.2.1) (v := v) V.1.1 hj hb rfl s.1 0 (by omega) (by omega)
  have e : x_am_attackerAt_23 s.2.1 s.2.2.2.2.2.1 (nI (z_cn (s.2.2.2.2.2.1 v) j)) v s.1 0 0 = .inr (.inl (s.2.1 j)) := e
  unfold x_am_attackerAt
  rw [V.slot hv]
  dsimp only
  rw [e]
theorem u_atN' (V : z_V B s) {v : Nat} (hv : v < s.1) : x_am_attackerAt s.1 s.2.1 s.2.2.2.2.2.1 (s.2.1 v) (nI (z_cn (s.2.2.2.2.2.1 v) s.1)) = .inr "java/lang/IndexOutOfBoundsException" := by
  have e := u_atN (id := s.2.1) (att := s.2.2.2.2.2.1) (v := v) V.1.1 s.1 0 (by omega)
  have e : x_am_attackerAt_23 s.2.1 s.2.2.2.2.2.1 (nI (z_cn (s.2.2.2.2.2.1 v) s.1)) v s.1 0 0 = .inl () := e
  unfold x_am_attackerAt
  rw [V.slot hv]
  dsimp only
  rw [e]
/-- status after no day -/
theorem u_after (V : z_V B s) {v : Nat} (hv : v < s.1) {s2 : ZS} (ac rj : Int32) (co : Nat → Int32) : (x_am_statusAfter s.1 s.2.1 s.2.2.1 s.2.2.2.1 s.2.2.2.2.1 s.2.2.2.2.2.1 s.2.2.2.2.2.2.1 s.2.2.2.2.2.2.2.1 s.2.2.2.2.2.2.2.2.1 s.2.2.2.2.2.2.2.2.2.1 s.2.2.2.2.2.2.2.2.2.2.1 s.2.2.2.2.2.2.2.2.2.2.2.1 s.2.2.2.2.2.2.2.2.2.2.2.2 s2.1 s2.2.1 s2.2.2.1 s2.2.2.2.1 s2.2.2.2.2.1 s2.2.2.2.2.2.1 s2.2.2.2.2.2.2.1 s2.2.2.2.2.2.2.2.1 s2.2.2.2.2.2.2.2.2.1 s2.2.2.2.2.2.2.2.2.2.1 s2.2.2.2.2.2.2.2.2.2.2.1 s2.2.2.2.2.2.2.2.2.2.2.2.1 s2.2.2.2.2.2.2.2.2.2.2.2.2 ac rj co (s.2.1 v) 0).1 = .inl (zLt s v) := by
  have W := V.1
  have h8 := W.1
  have e0 : (x_am_statusAfter s.1 s.2.1 s.2.2.1 s.2.2.2.1 s.2.2.2.2.1 s.2.2.2.2.2.1 s.2.2.2.2.2.2.1 s.2.2.2.2.2.2.2.1 s.2.2.2.2.2.2.2.2.1 s.2.2.2.2.2.2.2.2.2.1 s.2.2.2.2.2.2.2.2.2.2.1 s.2.2.2.2.2.2.2.2.2.2.2.1 s.2.2.2.2.2.2.2.2.2.2.2.2 s2.1 s2.2.1 s2.2.2.1 s2.2.2.2.1 s2.2.2.2.2.1 s2.2.2.2.2.2.1 s2.2.2.2.2.2.2.1 s2.2.2.2.2.2.2.2.1 s2.2.2.2.2.2.2.2.2.1 s2.2.2.2.2.2.2.2.2.2.1 s2.2.2.2.2.2.2.2.2.2.2.1 s2.2.2.2.2.2.2.2.2.2.2.2.1 s2.2.2.2.2.2.2.2.2.2.2.2.2 ac rj co (s.2.1 v) 0).1 = .inl (x_lb_letter (x_lb_give co s.1 (x_st_findAttackers s.1 (z_cps s s2).2.2.1 (x_st_age_12 0 s.1 0 (z_cps s s2).2.2.2.1) (z_cps s s2).2.2.2.2.1 (z_cps s s2).2.2.2.2.2.1).2).1 (x_lb_give co s.1 (x_st_findAttackers s.1 (z_cps s s2).2.2.1 (x_st_age_12 0 s.1 0 (z_cps s s2).2.2.2.1) (z_cps s s2).2.2.2.2.1 (z_cps s s2).2.2.2.2.2.1).2).2.1 v) := by
    unfold x_am_statusAfter
    rw [V.slot hv]
    dsimp only
    rw [if_neg (by decide), if_pos (by decide)]
    rfl
  have hA : ∀ j, j < s.1 → x_mo_attackers (zAl s) s.1 j = (x_st_findAttackers s.1 (z_cps s s2).2.2.1 (x_st_age_12 0 s.1 0 (z_cps s s2).2.2.2.1) (z_cps s s2).2.2.2.2.1 (z_cps s s2).2.2.2.2.2.1).2 j := fun j hj => by
    rw [z_fa5 hj]
    refine z_fa hj h8 (fun i hi => ?_)
    obtain ⟨c1, c2, c3⟩ := z_cpsW (d := s2) h8 hi
    obtain ⟨x, hx, e⟩ := W.2.2.2.2.2.1 i hi
    refine ⟨by rw [c1]; exact V.R.wt hi, ?_, by rw [c3]; exact V.R.tg hi, ?_⟩
    · rw [z_age12, if_pos ⟨Nat.zero_le i, by omega⟩, c2, V.R.ag hi, e]
      have := z_capd hx (d := 0) (by omega)
      have e9 : nI 0 = (0 : Int32) := rfl
      rw [e9] at this
      rw [this]
      congr 1
      omega
    · obtain ⟨m, hm, e3⟩ := W.tg hi
      exact ⟨m, hm, by rw [c3]; exact e3⟩
  obtain ⟨l1, l2, -⟩ := z_labelsG h8 hA co (fun _ => 0)
  obtain ⟨b1, b2, -, -⟩ := z_labels V.1 V.R (fun _ => 0) (fun _ => 0)
  have f1 : zAc s = _ := b1
  have f2 : zRj s = _ := b2
  rw [e0, l1, l2, ← f1, ← f2]
  rfl
end ASKS
