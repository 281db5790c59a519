/-! texts as lists of characters -/
def z_tx (n : Nat) (f : Nat → Int32) (L : List Int32) : Prop := n = L.length ∧ ∀ j, j < n → L[j]? = some (f j)
def z_dgs (m : Nat) : List Int32 := (List.range (sb_dg m)).map (fun i => nI (sb_dec m i))
theorem tx_nil {f : Nat → Int32} : z_tx 0 f [] := ⟨rfl, fun j hj => absurd hj (Nat.not_lt_zero j)⟩
theorem tx_app {n k : Nat} {f g e : Nat → Int32} {L M : List Int32} (h1 : z_tx n f L) (h2 : z_tx k g M) (e1 : ∀ j, j < n → e j = f j) (e2 : ∀ j, j < k → e (n + j) = g j) : z_tx (n + k) e (L ++ M) := by
  obtain ⟨a1, b1⟩ := h1
  obtain ⟨a2, b2⟩ := h2
  refine ⟨by rw [List.length_append]; omega, fun j hj => ?_⟩
  by_cases q : j < n
  · rw [List.getElem?_append_left (by omega), b1 j q, e1 j q]
  · rw [List.getElem?_append_right (by omega)]
    have q2 := e2 (j - n) (by omega)
    rw [show n + (j - n) = j by omega] at q2
    rw [q2, ← b2 (j - n) (by omega)]
    congr 1
    omega
theorem tx_chr {n : Nat} {f : Nat → Int32} {L : List Int32} (h : z_tx n f L) (x : Int32) : z_tx (n + 1) (upd f n x) (L ++ [x]) :=
  tx_app h (k := 1) (g := fun _ => x) ⟨rfl, fun j hj => by
    have e : j = 0 := by omega
    subst e
    rfl⟩ (fun j hj => upd_ne (by omega)) (fun j hj => by
    have e : j = 0 := by omega
    subst e
    exact upd_eq)
theorem tx_dgs (m : Nat) : z_tx (sb_dg m) (fun i => nI (sb_dec m i)) (z_dgs m) := ⟨by simp [z_dgs], fun j hj => by
  unfold z_dgs
  rw [List.getElem?_map, List.getElem?_range hj]
  rfl⟩
theorem tx_num {n m : Nat} {f : Nat → Int32} {L : List Int32} (h : z_tx n f L) : z_tx (n + sb_dg m) (x_num f n m) (L ++ z_dgs m) :=
  tx_app h (tx_dgs m) (fun j hj => by
    unfold x_num
    rw [if_pos hj]) (fun j hj => by
    unfold x_num
    rw [if_neg (by omega)]
    congr 2
    omega)
theorem tx_cat {n k : Nat} {f g : Nat → Int32} {L M : List Int32} (h1 : z_tx n f L) (h2 : z_tx k g M) : z_tx (n + k) (x_cat f n g) (L ++ M) :=
  tx_app h1 h2 (fun j hj => by
    unfold x_cat
    rw [if_pos hj]) (fun j hj => by
    unfold x_cat
    rw [if_neg (by omega)]
    congr 1
    omega)
theorem tx_pat (k : Nat) : z_tx (q_pat k).length (fun j => (q_pat k).getD j 0) (q_pat k) := ⟨rfl, fun j hj => by
  show _ = some ((q_pat k).getD j 0)
  rw [List.getD_eq_getElem?_getD, List.getElem?_eq_getElem hj]
  rfl⟩
theorem tx_len {n : Nat} {f : Nat → Int32} {L : List Int32} (h : z_tx n f L) : n = L.length := h.1
theorem tx_eq {n k : Nat} {f g : Nat → Int32} {L : List Int32} (h1 : z_tx n f L) (h2 : z_tx k g L) : n = k ∧ ∀ j, j < n → f j = g j := by
  obtain ⟨a1, b1⟩ := h1
  obtain ⟨a2, b2⟩ := h2
  refine ⟨by omega, fun j hj => ?_⟩
  have := (b1 j hj).symm.trans (b2 j (by omega))
  exact Option.some.inj this
theorem z_dglen (m : Nat) : (z_dgs m).length = sb_dg m := by simp [z_dgs]
theorem tx_dg10 {m : Nat} (h : m < 100) : sb_dg m ≤ 2 := by
  rw [z_dg (by omega), if_pos h]
  split <;> omega
theorem tx_dg1 {m : Nat} (h : m < 10) : sb_dg m = 1 := by
  rw [z_dg (by omega), if_pos (by omega), if_pos h]
/-- the attackers' part of a line -/
def z_lP (id att : Nat → Int32) (v : Nat) : Nat → List Int32
  | 0 => []
  | k + 1 => z_lP id att v k ++ (if z_bi (att v) k = true then [60] ++ z_dgs (id k).toNatClampNeg else [])
/-- the line of an argument, up to its attackers -/
def z_lH (s : ZS) (v : Nat) : List Int32 := (((((z_dgs (s.2.1 v).toNatClampNeg ++ [40]) ++ z_dgs (zStr s v).toNatClampNeg) ++ [47]) ++ z_dgs (s.2.2.1 v).toNatClampNeg) ++ [41]) ++ [zLt s v]
/-- the line of a dialogue -/
def z_dP (mv : Nat → Int32) : Nat → List Int32
  | 0 => []
  | k + 1 => ((z_dP mv k ++ (if k = 0 then [] else [32])) ++ (if k % 2 = 0 then [112] else [111])) ++ z_dgs (mv k).toNatClampNeg
theorem fa93_tx {id att : Nat → Int32} {v n : Nat} (hn : n ≤ 8) {H : List Int32} : ∀ r k l f, k + r = n → z_tx l f (H ++ z_lP id att v k) → z_tx (x_am_formatArgument_93 id att v r k f l).2 (x_am_formatArgument_93 id att v r k f l).1 (H ++ z_lP id att v n) := by
  intro r
  induction r with
  | zero =>
    intro k l f hk h
    have e : k = n := by omega
    subst e
    exact h
  | succ r ih =>
    intro k l f hk h
    simp only [x_am_formatArgument_93]
    rw [z_has_bt _ (by omega)]
    by_cases b : z_bi (att v) k = true
    · rw [if_pos b]
      refine ih (k + 1) _ _ (by omega) ?_
      have h2 := tx_num (m := (id k).toNatClampNeg) (tx_chr h 60)
      have e : H ++ z_lP id att v (k + 1) = ((H ++ z_lP id att v k) ++ [60]) ++ z_dgs (id k).toNatClampNeg := by
        show H ++ (z_lP id att v k ++ (if z_bi (att v) k = true then [60] ++ z_dgs (id k).toNatClampNeg else [])) = _
        rw [if_pos b]
        simp only [List.append_assoc]
      rw [e]
      exact h2
    · rw [if_neg b]
      refine ih (k + 1) _ _ (by omega) ?_
      have e : H ++ z_lP id att v (k + 1) = H ++ z_lP id att v k := by
        show H ++ (z_lP id att v k ++ (if z_bi (att v) k = true then [60] ++ z_dgs (id k).toNatClampNeg else [])) = _
        rw [if_neg b, List.append_nil]
      rw [e]
      exact h
theorem fd22_tx {mv : Nat → Int32} {n : Nat} : ∀ r k l f, k + r = n → z_tx l f (z_dP mv k) → z_tx (x_am_formatDialogue_22 mv r k f l).2 (x_am_formatDialogue_22 mv r k f l).1 (z_dP mv n) := by
  intro r
  induction r with
  | zero =>
    intro k l f hk h
    have e : k = n := by omega
    subst e
    exact h
  | succ r ih =>
    intro k l f hk h
    simp only [x_am_formatDialogue_22]
    rw [z_prop]
    by_cases h0 : k = 0
    · subst h0
      rw [if_pos (Nat.le_refl 0), if_pos (by decide)]
      refine ih 1 _ _ (by omega) ?_
      have h2 := tx_num (m := (mv 0).toNatClampNeg) (tx_chr h 112)
      exact h2
    · rw [if_neg (by omega)]
      by_cases p : k % 2 = 0
      · rw [if_pos (by rw [decide_eq_true p])]
        refine ih (k + 1) _ _ (by omega) ?_
        have h2 := tx_num (m := (mv k).toNatClampNeg) (tx_chr (tx_chr h 32) 112)
        have e : z_dP mv (k + 1) = ((z_dP mv k ++ [32]) ++ [112]) ++ z_dgs (mv k).toNatClampNeg := by
          show ((z_dP mv k ++ (if k = 0 then [] else [32])) ++ (if k % 2 = 0 then [112] else [111])) ++ z_dgs (mv k).toNatClampNeg = _
          rw [if_neg h0, if_pos p]
        rw [e]
        exact h2
      · rw [if_neg (by rw [decide_eq_false p]; exact Bool.false_ne_true)]
        refine ih (k + 1) _ _ (by omega) ?_
        have h2 := tx_num (m := (mv k).toNatClampNeg) (tx_chr (tx_chr h 32) 111)
        have e : z_dP mv (k + 1) = ((z_dP mv k ++ [32]) ++ [111]) ++ z_dgs (mv k).toNatClampNeg := by
          show ((z_dP mv k ++ (if k = 0 then [] else [32])) ++ (if k % 2 = 0 then [112] else [111])) ++ z_dgs (mv k).toNatClampNeg = _
          rw [if_neg h0, if_neg p]
        rw [e]
        exact h2
section TEXTS
variable {B : Nat} {s : ZS}
theorem u_fmt (V : z_V B s) {v : Nat} (hv : v < s.1) (ac rj : Int32) (co : Nat → Int32) (lc : Nat) (fl : Nat → Int32) : ∃ l f, z_tx l f (z_lH s v ++ z_lP s.2.1 s.2.2.2.2.2.1 v s.1) ∧ (x_am_formatArgument s.1 s.2.1 s.2.2.1 s.2.2.2.1 s.2.2.2.2.2.1 ac rj co lc fl (s.2.1 v)).1 = .inl (nI l) ∧ (x_am_formatArgument s.1 s.2.1 s.2.2.1 s.2.2.2.1 s.2.2.2.2.2.1 ac rj co lc fl (s.2.1 v)).2.2.2.2.1 = l ∧ (x_am_formatArgument s.1 s.2.1 s.2.2.1 s.2.2.2.1 s.2.2.2.2.2.1 ac rj co lc fl (s.2.1 v)).2.2.2.2.2 = f := by
  obtain ⟨a, b, -⟩ := g_eq V co
  unfold x_am_formatArgument
  rw [V.slot hv]
  generalize x_lb_give co s.1 s.2.2.2.2.2.1 = t at a b
  obtain ⟨p, q, r⟩ := t
  dsimp only at a b ⊢
  rw [a, b]
  have h0 : z_tx 0 fl [] := tx_nil
  have h1 := tx_chr (tx_num (m := (s.2.1 v).toNatClampNeg) h0) 40
  have h2 := tx_chr (tx_num (m := (x_st_strength s.2.2.1 s.2.2.2.1 v).toNatClampNeg) h1) 47
  have h3 := tx_chr (tx_chr (tx_num (m := (s.2.2.1 v).toNatClampNeg) h2) 41) (x_lb_letter (zAc s) (zRj s) v)
  have h4 := fa93_tx (id := s.2.1) (att := s.2.2.2.2.2.1) (v := v) V.1.1 (H := z_lH s v) s.1 0 _ _ (by omega) (show z_tx _ _ (z_lH s v ++ []) by
    rw [List.append_nil]
    exact h3)
  exact ⟨_, _, h4, rfl, rfl, rfl⟩
theorem u_fmd (V : z_V B s) (hm : s.2.2.2.2.2.2.2.2.1 ≠ 0) (lc : Nat) (fl : Nat → Int32) : ∃ l f, z_tx l f (z_dP s.2.2.2.2.2.2.2.2.2.1 s.2.2.2.2.2.2.2.2.1) ∧ (x_am_formatDialogue s.2.2.2.2.2.2.2.2.1 s.2.2.2.2.2.2.2.2.2.1 lc fl).1 = .inl (nI l) ∧ (x_am_formatDialogue s.2.2.2.2.2.2.2.2.1 s.2.2.2.2.2.2.2.2.2.1 lc fl).2.1 = l ∧ (x_am_formatDialogue s.2.2.2.2.2.2.2.2.1 s.2.2.2.2.2.2.2.2.2.1 lc fl).2.2 = f := by
  unfold x_am_formatDialogue x_dl_mustBeHeld
  rw [if_neg hm]
  have h4 := fd22_tx (mv := s.2.2.2.2.2.2.2.2.2.1) (n := s.2.2.2.2.2.2.2.2.1) s.2.2.2.2.2.2.2.2.1 0 0 fl (by omega) tx_nil
  exact ⟨_, _, h4, rfl, rfl, rfl⟩
theorem u_fmd0 (hm : s.2.2.2.2.2.2.2.2.1 = 0) (lc : Nat) (fl : Nat → Int32) : x_am_formatDialogue s.2.2.2.2.2.2.2.2.1 s.2.2.2.2.2.2.2.2.2.1 lc fl = (.inr "java/util/NoSuchElementException", lc, fl) := by
  unfold x_am_formatDialogue x_dl_mustBeHeld
  rw [if_pos hm]
theorem u_line {lc : Nat} {fl : Nat → Int32} {i : Nat} (hi : i < lc) (hl : lc ≤ 142) : x_am_lineChar lc fl (nI i) = .inl (fl i) := by
  unfold x_am_lineChar
  rw [if_neg (nI_pos (by omega)), if_pos ((nI_ltI (by omega) (by omega)).mpr hi), nI_clamp (by omega)]
theorem z_lPlen (V : z_V B s) (hB : B ≤ 100) (v : Nat) : ∀ k, k ≤ s.1 → (z_lP s.2.1 s.2.2.2.2.2.1 v k).length ≤ 3 * k := by
  intro k
  induction k with
  | zero =>
    intro _
    exact Nat.le_refl 0
  | succ k ih =>
    intro hk
    obtain ⟨m, hm, e⟩ := V.id (by omega : k < s.1)
    have h2 := tx_dg10 (m := m) (by omega)
    have := ih (by omega)
    show (z_lP s.2.1 s.2.2.2.2.2.1 v k ++ (if z_bi (s.2.2.2.2.2.1 v) k = true then [60] ++ z_dgs (s.2.1 k).toNatClampNeg else [])).length ≤ _
    rw [List.length_append]
    split
    · rw [List.length_append, z_dglen, e, nI_clamp (by omega)]
      show _ + (1 + _) ≤ _
      omega
    · show _ + 0 ≤ _
      omega
theorem z_mvN (V : z_V B s) {p : Nat} (hp : p < s.2.2.2.2.2.2.2.2.1) : ∃ m, m < B ∧ s.2.2.2.2.2.2.2.2.2.1 p = nI m := by
  obtain ⟨j, hj, e⟩ := V.1.2.2.2.2.2.2.2.2.1 p hp
  rw [e]
  exact V.id hj
theorem z_dPlen (V : z_V B s) (hB : B ≤ 100) : ∀ k, k ≤ s.2.2.2.2.2.2.2.2.1 → (z_dP s.2.2.2.2.2.2.2.2.2.1 k).length ≤ 4 * k := by
  intro k
  induction k with
  | zero =>
    intro _
    exact Nat.le_refl 0
  | succ k ih =>
    intro hk
    obtain ⟨m, hm, e⟩ := z_mvN V (by omega : k < s.2.2.2.2.2.2.2.2.1)
    have h2 := tx_dg10 (m := m) (by omega)
    have := ih (by omega)
    show (((z_dP s.2.2.2.2.2.2.2.2.2.1 k ++ (if k = 0 then [] else [32])) ++ (if k % 2 = 0 then [112] else [111])) ++ z_dgs (s.2.2.2.2.2.2.2.2.2.1 k).toNatClampNeg).length ≤ _
    rw [List.length_append, List.length_append, List.length_append, z_dglen, e, nI_clamp (by omega)]
    have a1 : (if k = 0 then ([] : List Int32) else [32]).length ≤ 1 := by
      split
      · exact Nat.zero_le _
      · exact Nat.le_refl 1
    have a2 : (if k % 2 = 0 then ([112] : List Int32) else [111]).length ≤ 1 := by
      split
      · exact Nat.le_refl 1
      · exact Nat.le_refl 1
    omega
theorem z_lHlen (V : z_V B s) (hB : B ≤ 100) {v : Nat} (hv : v < s.1) : (z_lH s v).length ≤ 8 := by
  obtain ⟨m, hm, e⟩ := V.id hv
  obtain ⟨a, ha, ea⟩ := z_strB V.1 hv
  obtain ⟨b, hb1, hb2, eb⟩ := V.1.2.2.2.2.1 v hv
  have h1 := tx_dg10 (m := m) (by omega)
  have h2 := tx_dg1 (m := a) (by omega)
  have h3 := tx_dg1 (m := b) (by omega)
  unfold z_lH zStr
  rw [ea, eb, e]
  simp only [List.length_append, z_dglen]
  rw [nI_clamp (by omega), nI_clamp (by omega), nI_clamp (by omega)]
  simp only [List.length_cons, List.length_nil]
  omega
end TEXTS
section KTX
variable {g : q_G} {h : q_H} {d B : Nat} {s : ZS} {lc : Nat} {fl : Nat → Int32}
theorem k_formatArgument (X : z_X h s lc fl) (V : z_V B s) (hB : B ≤ 10000) {v : Nat} (hv : v < s.1) (hd : 8 ≤ d) : q_Spec g mX10_formatArgument d 25 6870 [.ref (100), .int (s.2.1 v)] h (fun o h1 => ∃ l f, z_tx l f (z_lH s v ++ z_lP s.2.1 s.2.2.2.2.2.1 v s.1) ∧ o = .inl (some (.int (nI l))) ∧ z_X h1 s l f ∧ q_zone h h1 100 115) := by
  obtain ⟨hs, se, sf, s1, nx, kp, rw, ic, fi, q1, q2, s2, ca, cj, co, won, lost, pf, cv, sc, pc, pp, po, vb, oa, ob, w⟩ := X
  have hid : ∀ j, j < s.1 → ∃ m : Nat, m < 10000 ∧ s.2.1 j = nI m := fun j hj => by
    obtain ⟨m, hm, e⟩ := V.id hj
    exact ⟨m, by omega, e⟩
  refine q_Spec_mono (c_formatArgument (g := g) (d := d) w (s.2.1 v) (fun _ _ => hid v hv) hid (fun j hj => ?_) (fun j hj => ?_) hd) (fun o h1 hQ => ?_)
  · obtain ⟨m, -, hm, e⟩ := V.1.2.2.2.2.1 j hj
    exact ⟨m, by omega, e⟩
  · obtain ⟨m, hm, e⟩ := z_strB V.1 hj
    exact ⟨m, by omega, e⟩
  · obtain ⟨l, f, t, e1, e2, e3⟩ := u_fmt V hv ca cj co lc fl
    obtain ⟨e, x, y⟩ := hQ
    rw [e1] at e
    rw [e2, e3] at x
    exact ⟨l, f, t, e, ⟨hs, se, sf, s1, nx, kp, rw, ic, fi, q1, q2, x⟩, y⟩
theorem k_formatDialogue (X : z_X h s lc fl) (V : z_V B s) (hB : B ≤ 10000) (hm : s.2.2.2.2.2.2.2.2.1 ≠ 0) (hd : 8 ≤ d) : q_Spec g mX10_formatDialogue d 38 10588 [.ref (100)] h (fun o h1 => ∃ l f, z_tx l f (z_dP s.2.2.2.2.2.2.2.2.2.1 s.2.2.2.2.2.2.2.2.1) ∧ o = .inl (some (.int (nI l))) ∧ z_X h1 s l f ∧ q_zone h h1 100 115) := by
  obtain ⟨hs, se, sf, s1, nx, kp, rw, ic, fi, q1, q2, s2, ca, cj, co, won, lost, pf, cv, sc, pc, pp, po, vb, oa, ob, w⟩ := X
  refine q_Spec_mono (c_formatDialogue (g := g) (d := d) w (fun j hj => ?_) hd) (fun o h1 hQ => ?_)
  · obtain ⟨m, h1, e⟩ := z_mvN V hj
    exact ⟨m, by omega, e⟩
  · obtain ⟨l, f, t, e1, e2, e3⟩ := u_fmd V hm lc fl
    obtain ⟨e, x, y⟩ := hQ
    rw [e1] at e
    rw [e2, e3] at x
    exact ⟨l, f, t, e, ⟨hs, se, sf, s1, nx, kp, rw, ic, fi, q1, q2, x⟩, y⟩
theorem k_formatDialogue0 (X : z_X h s lc fl) (V : z_V B s) (hB : B ≤ 10000) (hm : s.2.2.2.2.2.2.2.2.1 = 0) (hd : 8 ≤ d) : q_Spec g mX10_formatDialogue d 38 10588 [.ref (100)] h (q_chg (.inr "java/util/NoSuchElementException") (fun h1 => z_X h1 s lc fl ∧ q_zone h h1 100 115)) := by
  obtain ⟨hs, se, sf, s1, nx, kp, rw, ic, fi, q1, q2, s2, ca, cj, co, won, lost, pf, cv, sc, pc, pp, po, vb, oa, ob, w⟩ := X
  refine q_Spec_mono (c_formatDialogue (g := g) (d := d) w (fun j hj => by omega) hd) (fun o h1 hQ => ?_)
  obtain ⟨e, x, y⟩ := hQ
  rw [u_fmd0 hm lc fl] at e x
  exact ⟨e, ⟨hs, se, sf, s1, nx, kp, rw, ic, fi, q1, q2, x⟩, y⟩
theorem k_lineChar (X : z_X h s lc fl) {i : Nat} (hi : i < lc) (hd : 7 ≤ d) : q_Spec g mX10_lineChar d 1 6 [.ref (100), .int (nI i)] h (q_chg (.inl (some (.int (fl i)))) (fun h1 => z_X h1 s lc fl ∧ q_zone h h1 100 115)) := by
  have hl := X.lineB
  obtain ⟨hs, se, sf, s1, nx, kp, rw, ic, fi, q1, q2, s2, ca, cj, co, won, lost, pf, cv, sc, pc, pp, po, vb, oa, ob, w⟩ := X
  refine q_Spec_mono (c_lineChar (g := g) (d := d) w (nI i) hd) (fun o h1 hQ => ?_)
  obtain ⟨e, x, y⟩ := hQ
  rw [u_line hi hl] at e
  exact ⟨e, ⟨hs, se, sf, s1, nx, kp, rw, ic, fi, q1, q2, x⟩, y⟩
theorem k_argumentByStrength (X : z_X h s lc fl) (V : z_V B s) {v r : Nat} (hv : v < s.1) (hr : zRk s v = r) (hd : 8 ≤ d) : q_Spec g mX10_argumentByStrength d 1 6 [.ref (100), .int (nI r)] h (q_chg (.inl (some (.int (s.2.1 v)))) (fun h1 => z_X h1 s lc fl ∧ q_zone h h1 100 115)) := by
  subst hr
  obtain ⟨hs, se, sf, s1, nx, kp, rw, ic, fi, q1, q2, s2, ca, cj, co, won, lost, pf, cv, sc, pc, pp, po, vb, oa, ob, w⟩ := X
  refine q_Spec_mono (c_argumentByStrength (g := g) (d := d) w (nI (zRk s v)) (by omega)) (fun o h1 hQ => ?_)
  obtain ⟨e, x, y⟩ := hQ
  rw [u_abs V hv] at e
  exact ⟨e, ⟨hs, se, sf, s1, nx, kp, rw, ic, fi, q1, q2, x⟩, y⟩
theorem k_argumentByStrengthN (X : z_X h s lc fl) (V : z_V B s) (hd : 8 ≤ d) : q_Spec g mX10_argumentByStrength d 1 6 [.ref (100), .int (nI s.1)] h (q_chg (.inr "java/util/NoSuchElementException") (fun h1 => z_X h1 s lc fl ∧ q_zone h h1 100 115)) := by
  obtain ⟨hs, se, sf, s1, nx, kp, rw, ic, fi, q1, q2, s2, ca, cj, co, won, lost, pf, cv, sc, pc, pp, po, vb, oa, ob, w⟩ := X
  refine q_Spec_mono (c_argumentByStrength (g := g) (d := d) w (nI s.1) (by omega)) (fun o h1 hQ => ?_)
  obtain ⟨e, x, y⟩ := hQ
  rw [u_absn V] at e
  exact ⟨e, ⟨hs, se, sf, s1, nx, kp, rw, ic, fi, q1, q2, x⟩, y⟩
end KTX
