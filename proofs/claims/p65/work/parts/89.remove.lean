def z_shf (v j : Nat) : Nat := if v ≤ j then j + 1 else j
def z_wo (m v : Nat) : Nat := m % 2 ^ v + m / 2 ^ (v + 1) * 2 ^ v
theorem z_wo1 : ∀ v, v < 8 → ∀ m, m < 256 → x_st_withoutSlot (nI m) v = nI (z_wo m v) ∧ x_mo_without (nI m) v = nI (z_wo m v) ∧ z_cn (nI (z_wo m v)) 8 ≤ z_cn (nI m) 8 := by decide +kernel
theorem z_wo2 : ∀ n, n < 9 → ∀ v, v < n → ∀ m, m < 2 ^ n → z_wo m v < 2 ^ (n - 1) := by decide +kernel
theorem z_r40 {k : Nat} : ∀ r kk al i, x_mo_removes_40 k r kk al i = if 7 + 3 * k + kk ≤ i ∧ i < 7 + 3 * k + kk + r ∧ r ≤ 3 then al (i + 3) else if r ≤ 3 then al i else x_mo_removes_40 k r kk al i := by
  intro r
  induction r with
  | zero =>
    intro kk al i
    rw [if_neg (by omega), if_pos (by omega)]
    rfl
  | succ r ih =>
    intro kk al i
    by_cases hr : r + 1 ≤ 3
    · have u : x_mo_removes_40 k (r + 1) kk al i = x_mo_removes_40 k r (kk + 1) (upd al (7 + (3 * k) + kk) (al (7 + (3 * k) + 3 + kk))) i := rfl
      rw [u, ih, if_pos (by omega : r ≤ 3), if_pos hr]
      by_cases l : 7 + 3 * k + (kk + 1) ≤ i ∧ i < 7 + 3 * k + (kk + 1) + r ∧ r ≤ 3
      · rw [if_pos l, if_pos (by omega : 7 + 3 * k + kk ≤ i ∧ i < 7 + 3 * k + kk + (r + 1) ∧ r + 1 ≤ 3), upd_ne (by omega)]
      · rw [if_neg l]
        by_cases e : i = 7 + 3 * k + kk
        · rw [if_pos (by omega : 7 + 3 * k + kk ≤ i ∧ i < 7 + 3 * k + kk + (r + 1) ∧ r + 1 ≤ 3), e, upd_eq]
          congr 1
          omega
        · rw [if_neg (by omega : ¬ (7 + 3 * k + kk ≤ i ∧ i < 7 + 3 * k + kk + (r + 1) ∧ r + 1 ≤ 3)), upd_ne e]
    · rw [if_neg (fun q => hr q.2.2), if_neg hr]
theorem z_r40' {k : Nat} {al : Nat → Int32} {i : Nat} : x_mo_removes_40 k 3 0 al i = if 7 + 3 * k ≤ i ∧ i < 7 + 3 * k + 3 then al (i + 3) else al i := by
  rw [z_r40]
  by_cases l : 7 + 3 * k ≤ i ∧ i < 7 + 3 * k + 3
  · rw [if_pos l, if_pos (by omega : 7 + 3 * k + 0 ≤ i ∧ i < 7 + 3 * k + 0 + 3 ∧ 3 ≤ 3)]
  · rw [if_neg l, if_neg (by omega : ¬ (7 + 3 * k + 0 ≤ i ∧ i < 7 + 3 * k + 0 + 3 ∧ 3 ≤ 3)), if_pos (Nat.le_refl 3)]
theorem z_r30 : ∀ r k al i, k + r ≤ 7 → x_mo_removes_30 r k al i = if 7 + 3 * k ≤ i ∧ i < 7 + 3 * (k + r) then al (i + 3) else if 31 + k ≤ i ∧ i < 31 + (k + r) then al (i + 1) else al i := by
  intro r
  induction r with
  | zero =>
    intro k al i _
    rw [if_neg (by omega : ¬ (7 + 3 * k ≤ i ∧ i < 7 + 3 * (k + 0))), if_neg (by omega : ¬ (31 + k ≤ i ∧ i < 31 + (k + 0)))]
    rfl
  | succ r ih =>
    intro k al i hk
    have u : x_mo_removes_30 (r + 1) k al i = x_mo_removes_30 r (k + 1) (upd (x_mo_removes_40 k 3 0 al) (31 + k) (x_mo_removes_40 k 3 0 al (31 + k + 1))) i := rfl
    have v1 : ∀ i, i ≠ 31 + k → upd (x_mo_removes_40 k 3 0 al) (31 + k) (x_mo_removes_40 k 3 0 al (31 + k + 1)) i = if 7 + 3 * k ≤ i ∧ i < 7 + 3 * k + 3 then al (i + 3) else al i := fun i hi => by rw [upd_ne hi, z_r40']
    have v2 : upd (x_mo_removes_40 k 3 0 al) (31 + k) (x_mo_removes_40 k 3 0 al (31 + k + 1)) (31 + k) = al (31 + k + 1) := by rw [upd_eq, z_r40', if_neg (by omega)]
    rw [u, ih (k + 1) _ i (by omega)]
    by_cases l1 : 7 + 3 * (k + 1) ≤ i ∧ i < 7 + 3 * (k + 1 + r)
    · rw [if_pos l1, if_pos (by omega : 7 + 3 * k ≤ i ∧ i < 7 + 3 * (k + (r + 1))), v1 _ (by omega), if_neg (by omega)]
    · rw [if_neg l1]
      by_cases l2 : 31 + (k + 1) ≤ i ∧ i < 31 + (k + 1 + r)
      · rw [if_pos l2, if_neg (by omega : ¬ (7 + 3 * k ≤ i ∧ i < 7 + 3 * (k + (r + 1)))), if_pos (by omega : 31 + k ≤ i ∧ i < 31 + (k + (r + 1))), v1 _ (by omega), if_neg (by omega)]
      · rw [if_neg l2]
        by_cases e : i = 31 + k
        · rw [if_neg (by omega : ¬ (7 + 3 * k ≤ i ∧ i < 7 + 3 * (k + (r + 1)))), if_pos (by omega : 31 + k ≤ i ∧ i < 31 + (k + (r + 1))), e, v2]
        · rw [v1 _ e]
          by_cases l3 : 7 + 3 * k ≤ i ∧ i < 7 + 3 * k + 3
          · rw [if_pos l3, if_pos (by omega : 7 + 3 * k ≤ i ∧ i < 7 + 3 * (k + (r + 1)))]
          · rw [if_neg l3, if_neg (by omega : ¬ (7 + 3 * k ≤ i ∧ i < 7 + 3 * (k + (r + 1)))), if_neg (by omega : ¬ (31 + k ≤ i ∧ i < 31 + (k + (r + 1))))]
theorem z_r115 {n : Nat} : ∀ r k al i, x_mo_removes_115 n r k al i = if 7 + 3 * (n - 1) + k ≤ i ∧ i < 7 + 3 * (n - 1) + k + r then 0 else al i := by
  intro r
  induction r with
  | zero =>
    intro k al i
    rw [if_neg (by omega)]
    rfl
  | succ r ih =>
    intro k al i
    show x_mo_removes_115 n r (k + 1) (upd al (7 + (3 * (n - 1)) + k) 0) i = _
    rw [ih]
    by_cases e : i = 7 + 3 * (n - 1) + k
    · rw [e, if_neg (by omega), upd_eq, if_pos (by omega)]
    · rw [upd_ne e]
      by_cases l : 7 + 3 * (n - 1) + (k + 1) ≤ i ∧ i < 7 + 3 * (n - 1) + (k + 1) + r
      · rw [if_pos l, if_pos (by omega)]
      · rw [if_neg l, if_neg (by omega)]
theorem z_r165 {al0 : Nat → Int32} {n : Nat} {xid : Int32} : ∀ r k al i, x_mo_removes_165 al0 n xid r k al i = if 31 + k ≤ i ∧ i < 31 + (k + r) then x_mo_without (al i) (x_pl n al0 xid - 1) else al i := by
  intro r
  induction r with
  | zero =>
    intro k al i
    rw [if_neg (by omega)]
    rfl
  | succ r ih =>
    intro k al i
    show x_mo_removes_165 al0 n xid r (k + 1) (upd al (31 + k) (x_mo_without (al (31 + k)) (x_pl n al0 xid - 1))) i = _
    rw [ih]
    by_cases e : i = 31 + k
    · rw [e, if_neg (by omega), upd_eq, if_pos (by omega)]
    · rw [upd_ne e]
      by_cases l : 31 + (k + 1) ≤ i ∧ i < 31 + (k + 1 + r)
      · rw [if_pos l, if_pos (by omega)]
      · rw [if_neg l, if_neg (by omega)]
/-- the table with one argument less -/
def z_a14 (al : Nat → Int32) (n : Nat) (xid : Int32) : Nat → Int32 := x_mo_removes_165 al n xid (n - 1) 0 (upd (upd (x_mo_removes_115 n 3 0 (x_mo_removes_30 (n - 1 - (x_pl n al xid - 1)) (x_pl n al xid - 1) al)) (31 + (n - 1)) 0) 0 (nI (n - 1)))
theorem z_a14f {al : Nat → Int32} {n v : Nat} {xid : Int32} (hn : n ≤ 8) (hv : v < n) (a : x_pl n al xid = v + 1) :
    (∀ j c, j < n - 1 → c < 3 → z_a14 al n xid (7 + 3 * j + c) = al (7 + 3 * z_shf v j + c)) ∧ (∀ j, j < n - 1 → z_a14 al n xid (31 + j) = x_mo_without (al (31 + z_shf v j)) v) ∧ z_a14 al n xid 0 = nI (n - 1) ∧ (∀ i, 1 ≤ i → i < 7 → z_a14 al n xid i = al i) ∧ ∀ i, 39 ≤ i → z_a14 al n xid i = al i := by
  have u : ∀ i, z_a14 al n xid i = if 31 + 0 ≤ i ∧ i < 31 + (0 + (n - 1)) then x_mo_without (upd (upd (x_mo_removes_115 n 3 0 (x_mo_removes_30 (n - 1 - v) v al)) (31 + (n - 1)) 0) 0 (nI (n - 1)) i) v else upd (upd (x_mo_removes_115 n 3 0 (x_mo_removes_30 (n - 1 - v) v al)) (31 + (n - 1)) 0) 0 (nI (n - 1)) i := fun i => by
    unfold z_a14
    rw [z_r165, a, Nat.add_sub_cancel]
  have w : ∀ i, i ≠ 0 → i ≠ 31 + (n - 1) → ¬ (7 + 3 * (n - 1) ≤ i ∧ i < 7 + 3 * (n - 1) + 3) → upd (upd (x_mo_removes_115 n 3 0 (x_mo_removes_30 (n - 1 - v) v al)) (31 + (n - 1)) 0) 0 (nI (n - 1)) i = x_mo_removes_30 (n - 1 - v) v al i := fun i h1 h2 h3 => by
    rw [upd_ne h1, upd_ne h2, z_r115, if_neg (by omega)]
  have e9 : v + (n - 1 - v) = n - 1 := by omega
  refine ⟨fun j c hj hc => ?_, fun j hj => ?_, ?_, fun i h1 h2 => ?_, fun i h1 => ?_⟩
  · rw [u, if_neg (by omega), w _ (by omega) (by omega) (by omega), z_r30 _ _ _ _ (by omega), e9]
    unfold z_shf
    by_cases l : v ≤ j
    · rw [if_pos l, if_pos (by omega)]
      congr 1
      omega
    · rw [if_neg l, if_neg (by omega), if_neg (by omega)]
  · rw [u, if_pos (by omega), w _ (by omega) (by omega) (by omega), z_r30 _ _ _ _ (by omega), e9]
    unfold z_shf
    by_cases l : v ≤ j
    · rw [if_pos l, if_neg (by omega), if_pos (by omega)]
      rfl
    · rw [if_neg l, if_neg (by omega), if_neg (by omega)]
  · rw [u, if_neg (by omega), upd_eq]
  · rw [u, if_neg (by omega), w _ (by omega) (by omega) (by omega), z_r30 _ _ _ _ (by omega), if_neg (by omega), if_neg (by omega)]
  · rw [u, if_neg (by omega), w _ (by omega) (by omega) (by omega), z_r30 _ _ _ _ (by omega), if_neg (by omega), if_neg (by omega)]
theorem z_c24 : ∀ r k ag id tg wt, (∀ i, (x_st_remove_24 r k ag id tg wt).1 i = if k ≤ i ∧ i < k + r then ag (i + 1) else ag i) ∧ (∀ i, (x_st_remove_24 r k ag id tg wt).2.1 i = if k ≤ i ∧ i < k + r then id (i + 1) else id i) ∧ (∀ i, (x_st_remove_24 r k ag id tg wt).2.2.1 i = if k ≤ i ∧ i < k + r then tg (i + 1) else tg i) ∧ ∀ i, (x_st_remove_24 r k ag id tg wt).2.2.2 i = if k ≤ i ∧ i < k + r then wt (i + 1) else wt i := by
  have one : ∀ (f g : Nat → Int32) (r k : Nat), (∀ i, g i = if k + 1 ≤ i ∧ i < k + 1 + r then upd f k (f (k + 1)) (i + 1) else upd f k (f (k + 1)) i) → ∀ i, g i = if k ≤ i ∧ i < k + (r + 1) then f (i + 1) else f i := by
    intro f g r k h i
    rw [h]
    by_cases l : k + 1 ≤ i ∧ i < k + 1 + r
    · rw [if_pos l, if_pos (by omega : k ≤ i ∧ i < k + (r + 1)), upd_ne (by omega)]
    · rw [if_neg l]
      by_cases e : i = k
      · rw [if_pos (by omega : k ≤ i ∧ i < k + (r + 1)), e, upd_eq]
      · rw [if_neg (by omega : ¬ (k ≤ i ∧ i < k + (r + 1))), upd_ne e]
  intro r
  induction r with
  | zero =>
    intro k ag id tg wt
    refine ⟨fun i => ?_, fun i => ?_, fun i => ?_, fun i => ?_⟩ <;> (rw [if_neg (by omega)]; rfl)
  | succ r ih =>
    intro k ag id tg wt
    obtain ⟨h1, h2, h3, h4⟩ := ih (k + 1) (upd ag k (ag (k + 1))) (upd id k (id (k + 1))) (upd tg k (tg (k + 1))) (upd wt k (wt (k + 1)))
    exact ⟨one ag _ r k h1, one id _ r k h2, one tg _ r k h3, one wt _ r k h4⟩
theorem z_c106 {v : Nat} : ∀ r k tg i, x_st_remove_106 v r k tg i = if k ≤ i ∧ i < k + r then x_st_withoutSlot (tg i) v else tg i := by
  intro r
  induction r with
  | zero =>
    intro k tg i
    rw [if_neg (by omega)]
    rfl
  | succ r ih =>
    intro k tg i
    show x_st_remove_106 v r (k + 1) (upd tg k (x_st_withoutSlot (tg k) v)) i = _
    rw [ih]
    by_cases e : i = k
    · subst e
      rw [if_neg (by omega), upd_eq, if_pos (by omega)]
    · rw [upd_ne e]
      by_cases l : k + 1 ≤ i ∧ i < k + 1 + r
      · rw [if_pos l, if_pos (by omega)]
      · rw [if_neg l, if_neg (by omega)]
theorem z_ctSh {tg : Nat → Int32} {v : Nat} : ∀ m, v ≤ m → z_ct (fun i => tg (z_shf v i)) m + z_cn (tg v) 8 = z_ct tg (m + 1) := by
  intro m
  induction m with
  | zero =>
    intro h
    have e : v = 0 := by omega
    subst e
    rfl
  | succ m ih =>
    intro h
    show z_ct (fun i => tg (z_shf v i)) m + z_cn (tg (z_shf v m)) 8 + z_cn (tg v) 8 = z_ct tg (m + 1) + z_cn (tg (m + 1)) 8
    by_cases e : v = m + 1
    · subst e
      have e1 : z_shf (m + 1) m = m := if_neg (by omega)
      rw [e1]
      have e2 : z_ct (fun i => tg (z_shf (m + 1) i)) m = z_ct tg m := z_ctC m (fun i hi => congrArg tg (if_neg (by omega)))
      rw [e2]
      rfl
    · have e1 : z_shf v m = m + 1 := if_pos (by omega)
      rw [e1]
      have := ih (by omega)
      omega
theorem z_ctM {f g : Nat → Int32} : ∀ k, (∀ i, i < k → z_cn (f i) 8 ≤ z_cn (g i) 8) → z_ct f k ≤ z_ct g k := by
  intro k
  induction k with
  | zero =>
    intro _
    exact Nat.le_refl _
  | succ k ih =>
    intro h
    have h1 := ih (fun i hi => h i (by omega))
    have h2 := h k (by omega)
    show z_ct f k + z_cn (f k) 8 ≤ z_ct g k + z_cn (g k) 8
    omega
theorem z_was4 {al : Nat → Int32} {xid : Int32} : ∀ r k c, x_mo_wasMoved_4 al xid r k c = true ↔ c = true ∨ ∃ i, k ≤ i ∧ i < k + r ∧ al (39 + i) = xid := by
  intro r
  induction r with
  | zero =>
    intro k c
    exact ⟨fun h => Or.inl h, fun h => h.elim id (fun ⟨i, h1, h2, _⟩ => by omega)⟩
  | succ r ih =>
    intro k c
    simp only [x_mo_wasMoved_4]
    by_cases e : al (39 + k) = xid
    · rw [if_pos e, ih, Bool.or_true]
      exact ⟨fun _ => Or.inr ⟨k, by omega, by omega, e⟩, fun _ => Or.inl rfl⟩
    · rw [if_neg e, ih, Bool.or_false]
      constructor
      · rintro (h | ⟨i, h1, h2, h3⟩)
        · exact Or.inl h
        · exact Or.inr ⟨i, by omega, by omega, h3⟩
      · rintro (h | ⟨i, h1, h2, h3⟩)
        · exact Or.inl h
        · by_cases q : i = k
          · subst q
            exact absurd h3 e
          · exact Or.inr ⟨i, by omega, by omega, h3⟩
theorem z_boff2 {mv : Nat → Int32} {br xid : Int32} : ∀ r k, (x_dl_breakOffIfMoved_2 mv br xid r k = .inl () ∧ ∀ i, k ≤ i → i < k + r → mv i ≠ xid) ∨ (x_dl_breakOffIfMoved_2 mv br xid r k = .inr (0, br + 1) ∧ ∃ i, k ≤ i ∧ i < k + r ∧ mv i = xid) := by
  intro r
  induction r with
  | zero =>
    intro k
    exact Or.inl ⟨rfl, fun i h1 h2 => by omega⟩
  | succ r ih =>
    intro k
    simp only [x_dl_breakOffIfMoved_2]
    by_cases e : mv k = xid
    · rw [if_pos e]
      exact Or.inr ⟨rfl, k, by omega, by omega, e⟩
    · rw [if_neg e]
      rcases ih (k + 1) with ⟨a, b⟩ | ⟨a, i, h1, h2, h3⟩
      · refine Or.inl ⟨a, fun i h1 h2 => ?_⟩
        by_cases q : i = k
        · subst q
          exact e
        · exact b i (by omega) (by omega)
      · exact Or.inr ⟨a, i, by omega, by omega, h3⟩
theorem o_remove {B : Nat} {al : Nat → Int32} {s : ZS} (W : z_wfB B s) (R : z_R al 0 s) (rs xid xb : Int32) : z_op B al s (x_mo_removes al rs s.1 s.2.2.2.2.2.2.2.2.1 xid).1 (x_mo_removes al rs s.1 s.2.2.2.2.2.2.2.2.1 xid).2.1 (x_mo_removes al rs s.1 s.2.2.2.2.2.2.2.2.1 xid).2.2.1 (x_apply 1 xid xb s).1 (x_apply 1 xid xb s).2 ∧ (x_mo_removes al rs s.1 s.2.2.2.2.2.2.2.2.1 xid).1 ≠ 1 ∧ (x_mo_removes al rs s.1 s.2.2.2.2.2.2.2.2.1 xid).1 ≠ 2 ∧ (x_mo_removes al rs s.1 s.2.2.2.2.2.2.2.2.1 xid).2.2.2.1 = (x_apply 1 xid xb s).2.1 ∧ (x_mo_removes al rs s.1 s.2.2.2.2.2.2.2.2.1 xid).2.2.2.2 = (x_apply 1 xid xb s).2.2.2.2.2.2.2.2.2.1 := by
  have W0 := W
  have R0 := R
  obtain ⟨n, id, wt, ag, tg, att, ni, dy, mn, mv, en, wo, br⟩ := s
  obtain ⟨w1, w2, ⟨k, k1, k2, k3⟩, w4, w5, w6, w7, w8, w9, w10⟩ := W
  dsimp only at w1 w2 k2 k3 w4 w5 w6 w7 w8 w9 w10
  obtain ⟨r0, r1, r2, r3, r4, r5, r6, r7, r8⟩ := R
  simp only [Nat.zero_add] at r0 r1 r2 r3 r4 r5 r6 r7 r8
  rcases z_find R0 xid with ⟨a, b, c⟩ | ⟨v, hv, a, b, c, d⟩
  · dsimp only at a b c
    have e1 : x_mo_removes al rs n mn xid = (3, al, rs, n, mn) := by
      unfold x_mo_removes
      rw [if_pos b]
    have e2 : x_apply 1 xid xb (n, id, wt, ag, tg, att, ni, dy, mn, mv, en, wo, br) = (.inr "java/util/NoSuchElementException", (n, id, wt, ag, tg, att, ni, dy, mn, mv, en, wo, br)) := by
      simp only [x_apply, x_st_apply1, x_st_remove, c]
    rw [e1, e2]
    exact ⟨Or.inr (Or.inr (Or.inr ⟨rfl, rfl, rfl, rfl⟩)), (by decide : (3 : Int32) ≠ 1), (by decide : (3 : Int32) ≠ 2), rfl, rfl⟩
  · dsimp only at hv a b c d
    have h256 : (2 : Nat) ^ n ≤ 256 := Nat.pow_le_pow_right (n := 2) (by omega) w1
    obtain ⟨f1, f2, f3, f4, f5⟩ := z_a14f (xid := xid) w1 hv a
    obtain ⟨g1, g2, g3, g4⟩ := z_c24 (n - 1 - v) v ag id tg wt
    have e9 : v + (n - 1 - v) = n - 1 := by omega
    rw [e9] at g1 g2 g3 g4
    have hsh : ∀ j, j < n - 1 → z_shf v j < n := fun j hj => by
      unfold z_shf
      split <;> omega
    have hmo : ∀ i j, i < j → z_shf v i < z_shf v j := fun i j h => by
      unfold z_shf
      split <;> split <;> omega
    have sh1 : ∀ (f : Nat → Int32) j, j < n - 1 → (if v ≤ j ∧ j < n - 1 then f (j + 1) else f j) = f (z_shf v j) := fun f j hj => by
      unfold z_shf
      by_cases l : v ≤ j
      · rw [if_pos l, if_pos ⟨l, hj⟩]
      · rw [if_neg l, if_neg (fun q => l q.1)]
    have hid : ∀ j, j < n - 1 → (x_st_remove_24 (n - 1 - v) v ag id tg wt).2.1 j = id (z_shf v j) := fun j hj => (g2 j).trans (sh1 id j hj)
    have hwt : ∀ j, j < n - 1 → (x_st_remove_24 (n - 1 - v) v ag id tg wt).2.2.2 j = wt (z_shf v j) := fun j hj => (g4 j).trans (sh1 wt j hj)
    have hag : ∀ j, j < n - 1 → (x_st_remove_24 (n - 1 - v) v ag id tg wt).1 j = ag (z_shf v j) := fun j hj => (g1 j).trans (sh1 ag j hj)
    have htg : ∀ j, j < n - 1 → (x_st_remove_106 v (n - 1) 0 (x_st_remove_24 (n - 1 - v) v ag id tg wt).2.2.1) j = x_st_withoutSlot (tg (z_shf v j)) v := fun j hj => by
      rw [z_c106, if_pos (by omega), g3, sh1 tg j hj]
    have ht14 : ∀ j, j < n - 1 → z_a14 al n xid (31 + j) = (x_st_remove_106 v (n - 1) 0 (x_st_remove_24 (n - 1 - v) v ag id tg wt).2.2.1) j := fun j hj => by
      rw [f2 j hj, htg j hj, (r7 _ (hsh j hj)).2.2.2]
      obtain ⟨m, hm, em⟩ := w7 _ (hsh j hj)
      rw [em]
      obtain ⟨z1, z2, -⟩ := z_wo1 v (by omega) m (Nat.lt_of_lt_of_le hm h256)
      rw [z1, z2]
    have hct : z_ct (x_st_remove_106 v (n - 1) 0 (x_st_remove_24 (n - 1 - v) v ag id tg wt).2.2.1) (n - 1) ≤ 20 := by
      have h1 : z_ct (x_st_remove_106 v (n - 1) 0 (x_st_remove_24 (n - 1 - v) v ag id tg wt).2.2.1) (n - 1) ≤ z_ct (fun i => tg (z_shf v i)) (n - 1) := z_ctM (n - 1) (fun j hj => by
        rw [htg j hj]
        obtain ⟨m, hm, em⟩ := w7 _ (hsh j hj)
        rw [em]
        obtain ⟨z1, -, z3⟩ := z_wo1 v (by omega) m (Nat.lt_of_lt_of_le hm h256)
        rw [z1]
        exact z3)
      have h2 := z_ctSh (tg := tg) (v := v) (n - 1) (by omega)
      have e3 : n - 1 + 1 = n := by omega
      rw [e3] at h2
      omega
    have hval : x_mo_attacks al n - x_mo_attacks (z_a14 al n xid) (n - 1) = x_st_countAttacks n tg - x_st_countAttacks (n - 1) (x_st_remove_106 v (n - 1) 0 (x_st_remove_24 (n - 1 - v) v ag id tg wt).2.2.1) := by
      have q1 : x_mo_attacks al n = x_st_countAttacks n tg := z_atkE W0 R0
      have q2 : x_mo_attacks (z_a14 al n xid) (n - 1) = x_st_countAttacks (n - 1) (x_st_remove_106 v (n - 1) 0 (x_st_remove_24 (n - 1 - v) v ag id tg wt).2.2.1) := z_atk (fun j hj => ⟨ht14 j hj, by
        obtain ⟨m, hm, em⟩ := w7 _ (hsh j hj)
        rw [htg j hj, em, (z_wo1 v (by omega) m (Nat.lt_of_lt_of_le hm h256)).1]
        have := z_wo2 n (by omega) v hv m hm
        have h7 : (2 : Nat) ^ (n - 1) ≤ 2 ^ 8 := Nat.pow_le_pow_right (by omega) (by omega)
        exact ⟨z_wo m v, by omega, rfl⟩⟩)
      rw [q1, q2]
    have hnz : ¬ x_pl n al xid = 0 := by omega
    have hwas : x_mo_wasMoved (z_a14 al n xid) mn xid = true ↔ ∃ i, i < mn ∧ mv i = xid := by
      refine (z_was4 (al := z_a14 al n xid) (xid := xid) mn 0 false).trans ?_
      constructor
      · rintro (h | ⟨i, h1, h2, h3⟩)
        · cases h
        · rw [f5 _ (by omega), r8 i (by omega)] at h3
          exact ⟨i, by omega, h3⟩
      · rintro ⟨i, h1, h2⟩
        refine Or.inr ⟨i, by omega, by omega, ?_⟩
        rw [f5 _ (by omega), r8 i h1]
        exact h2
    have u1 : x_mo_removes al rs n mn xid = (if x_mo_wasMoved (z_a14 al n xid) mn xid then (0, (x_mo_breaksOff (z_a14 al n xid)).1, x_mo_attacks al n - x_mo_attacks (z_a14 al n xid) (n - 1), n - 1, (x_mo_breaksOff (z_a14 al n xid)).2) else (0, z_a14 al n xid, x_mo_attacks al n - x_mo_attacks (z_a14 al n xid) (n - 1), n - 1, mn)) := by
      unfold x_mo_removes
      rw [if_neg hnz]
      rfl
    rcases z_boff2 (mv := mv) (br := br) (xid := xid) mn 0 with ⟨h1, h2⟩ | ⟨h1, i, h2, h3, h4⟩
    · have hb : x_dl_breakOffIfMoved mn mv br xid = (mn, br) := by
        unfold x_dl_breakOffIfMoved
        rw [h1]
      have hw : ¬ x_mo_wasMoved (z_a14 al n xid) mn xid = true := fun q => by
        obtain ⟨i, i1, i2⟩ := hwas.mp q
        exact h2 i (Nat.zero_le i) (by omega) i2
      have e2 : x_apply 1 xid xb (n, id, wt, ag, tg, att, ni, dy, mn, mv, en, wo, br) = (.inl (x_st_countAttacks n tg - x_st_countAttacks (n - 1) (x_st_remove_106 v (n - 1) 0 (x_st_remove_24 (n - 1 - v) v ag id tg wt).2.2.1)), (n - 1, (x_st_remove_24 (n - 1 - v) v ag id tg wt).2.1, (x_st_remove_24 (n - 1 - v) v ag id tg wt).2.2.2, (x_st_remove_24 (n - 1 - v) v ag id tg wt).1, (x_st_remove_106 v (n - 1) 0 (x_st_remove_24 (n - 1 - v) v ag id tg wt).2.2.1), (x_st_findAttackers (n - 1) (x_st_remove_24 (n - 1 - v) v ag id tg wt).2.2.2 (x_st_remove_24 (n - 1 - v) v ag id tg wt).1 (x_st_remove_106 v (n - 1) 0 (x_st_remove_24 (n - 1 - v) v ag id tg wt).2.2.1) att).2, ni, dy, mn, mv, en, wo, br)) := by
        simp only [x_apply, x_st_apply1, x_st_remove, c, hb]
      have R2 : z_R (z_a14 al n xid) 0 (n - 1, (x_st_remove_24 (n - 1 - v) v ag id tg wt).2.1, (x_st_remove_24 (n - 1 - v) v ag id tg wt).2.2.2, (x_st_remove_24 (n - 1 - v) v ag id tg wt).1, (x_st_remove_106 v (n - 1) 0 (x_st_remove_24 (n - 1 - v) v ag id tg wt).2.2.1), (x_st_findAttackers (n - 1) (x_st_remove_24 (n - 1 - v) v ag id tg wt).2.2.2 (x_st_remove_24 (n - 1 - v) v ag id tg wt).1 (x_st_remove_106 v (n - 1) 0 (x_st_remove_24 (n - 1 - v) v ag id tg wt).2.2.1) att).2, ni, dy, mn, mv, en, wo, br) := by
        have base : ∀ i, i < 39 → True → z_a14 al n xid i = z_a14 al n xid i := fun _ _ _ => rfl
        unfold z_R
        simp only [Nat.zero_add]
        refine ⟨(base _ (by omega) trivial).trans f3, (base _ (by omega) trivial).trans ((f4 _ (by omega) (by omega)).trans r1), (base _ (by omega) trivial).trans ((f4 _ (by omega) (by omega)).trans r2), (f4 _ (by omega) (by omega)).trans r3, (base _ (by omega) trivial).trans ((f4 _ (by omega) (by omega)).trans r4), (base _ (by omega) trivial).trans ((f4 _ (by omega) (by omega)).trans r5), (f4 _ (by omega) (by omega)).trans r6, fun j hj => ⟨?_, ?_, ?_, ?_⟩, fun p hp => (f5 _ (by omega)).trans (r8 p hp)⟩
        · have hj : j < n - 1 := hj
          rw [base _ (by omega) trivial, f1 j 0 hj (by omega), hid j hj]
          exact (r7 _ (hsh j hj)).1
        · have hj : j < n - 1 := hj
          rw [base _ (by omega) trivial, f1 j 1 hj (by omega), hwt j hj]
          exact (r7 _ (hsh j hj)).2.1
        · have hj : j < n - 1 := hj
          rw [base _ (by omega) trivial, f1 j 2 hj (by omega), hag j hj]
          exact (r7 _ (hsh j hj)).2.2.1
        · have hj : j < n - 1 := hj
          rw [base _ (by omega) trivial]
          exact ht14 j hj
      have W2 : z_wfB (B + 1) (n - 1, (x_st_remove_24 (n - 1 - v) v ag id tg wt).2.1, (x_st_remove_24 (n - 1 - v) v ag id tg wt).2.2.2, (x_st_remove_24 (n - 1 - v) v ag id tg wt).1, (x_st_remove_106 v (n - 1) 0 (x_st_remove_24 (n - 1 - v) v ag id tg wt).2.2.1), (x_st_findAttackers (n - 1) (x_st_remove_24 (n - 1 - v) v ag id tg wt).2.2.2 (x_st_remove_24 (n - 1 - v) v ag id tg wt).1 (x_st_remove_106 v (n - 1) 0 (x_st_remove_24 (n - 1 - v) v ag id tg wt).2.2.1) att).2, ni, dy, mn, mv, en, wo, br) := by
        refine ⟨(by show n - 1 ≤ 8; omega), w2, ⟨k, by omega, k2, fun j hj => ?_⟩, fun i j hij hj => ?_, fun j hj => ?_, fun j hj => ?_, fun j hj => ?_, fun j hj => z_fa5 hj, fun p hp => ?_, hct⟩
        · have hj : j < n - 1 := hj
          show ∃ m, m < k ∧ (x_st_remove_24 (n - 1 - v) v ag id tg wt).2.1 j = nI m
          rw [hid j hj]
          exact k3 _ (hsh j hj)
        · have hj : j < n - 1 := hj
          show (x_st_remove_24 (n - 1 - v) v ag id tg wt).2.1 i ≠ (x_st_remove_24 (n - 1 - v) v ag id tg wt).2.1 j
          rw [hid j hj, hid i (by omega)]
          exact w4 _ _ (hmo i j hij) (hsh j hj)
        · have hj : j < n - 1 := hj
          show ∃ m, 1 ≤ m ∧ m ≤ 9 ∧ (x_st_remove_24 (n - 1 - v) v ag id tg wt).2.2.2 j = nI m
          rw [hwt j hj]
          exact w5 _ (hsh j hj)
        · have hj : j < n - 1 := hj
          show ∃ m, m ≤ 90 ∧ (x_st_remove_24 (n - 1 - v) v ag id tg wt).1 j = nI m
          rw [hag j hj]
          exact w6 _ (hsh j hj)
        · have hj : j < n - 1 := hj
          show ∃ m, m < 2 ^ (n - 1) ∧ (x_st_remove_106 v (n - 1) 0 (x_st_remove_24 (n - 1 - v) v ag id tg wt).2.2.1) j = nI m
          obtain ⟨m, hm, em⟩ := w7 _ (hsh j hj)
          rw [htg j hj, em, (z_wo1 v (by omega) m (Nat.lt_of_lt_of_le hm h256)).1]
          exact ⟨z_wo m v, z_wo2 n (by omega) v hv m hm, rfl⟩
        · have hp : p < mn := hp
          obtain ⟨j, hj, ej⟩ := w9 p hp
          have hjv : j ≠ v := fun z => h2 p (Nat.zero_le p) (by omega) (by rw [ej, z]; exact d)
          show ∃ j, j < n - 1 ∧ mv p = (x_st_remove_24 (n - 1 - v) v ag id tg wt).2.1 j
          by_cases l : j < v
          · refine ⟨j, by omega, ?_⟩
            rw [hid j (by omega), ej]
            congr 1
            exact (if_neg (by omega)).symm
          · refine ⟨j - 1, by omega, ?_⟩
            rw [hid (j - 1) (by omega), ej]
            congr 1
            unfold z_shf
            rw [if_pos (by omega)]
            omega
      rw [u1, if_neg hw, e2]
      exact ⟨Or.inl ⟨rfl, congrArg Sum.inl hval.symm, R2, W2, fun i hi => f5 i (by omega)⟩, (by decide : (0 : Int32) ≠ 1), (by decide : (0 : Int32) ≠ 2), rfl, rfl⟩
    · have hb : x_dl_breakOffIfMoved mn mv br xid = (0, br + 1) := by
        unfold x_dl_breakOffIfMoved
        rw [h1]
      have hw : x_mo_wasMoved (z_a14 al n xid) mn xid = true := hwas.mpr ⟨i, by omega, h4⟩
      have e2 : x_apply 1 xid xb (n, id, wt, ag, tg, att, ni, dy, mn, mv, en, wo, br) = (.inl (x_st_countAttacks n tg - x_st_countAttacks (n - 1) (x_st_remove_106 v (n - 1) 0 (x_st_remove_24 (n - 1 - v) v ag id tg wt).2.2.1)), (n - 1, (x_st_remove_24 (n - 1 - v) v ag id tg wt).2.1, (x_st_remove_24 (n - 1 - v) v ag id tg wt).2.2.2, (x_st_remove_24 (n - 1 - v) v ag id tg wt).1, (x_st_remove_106 v (n - 1) 0 (x_st_remove_24 (n - 1 - v) v ag id tg wt).2.2.1), (x_st_findAttackers (n - 1) (x_st_remove_24 (n - 1 - v) v ag id tg wt).2.2.2 (x_st_remove_24 (n - 1 - v) v ag id tg wt).1 (x_st_remove_106 v (n - 1) 0 (x_st_remove_24 (n - 1 - v) v ag id tg wt).2.2.1) att).2, ni, dy, 0, mv, en, wo, br + 1)) := by
        simp only [x_apply, x_st_apply1, x_st_remove, c, hb]
      have uBe : (x_mo_breaksOff (z_a14 al n xid)).1 = x_mo_clearsMoves (upd (upd (z_a14 al n xid) 3 0) 6 (upd (z_a14 al n xid) 3 0 6 + 1)) 0 := rfl
      have uB : ∀ i, (i < 39 ∨ 51 ≤ i) → (i ≠ 3 ∧ i ≠ 6) → (x_mo_breaksOff (z_a14 al n xid)).1 i = z_a14 al n xid i := fun i q1 q2 => by
        rw [uBe, z_clr (mn := 0) (by omega) (by omega), upd_ne q2.2, upd_ne q2.1]
      have uB3 : (x_mo_breaksOff (z_a14 al n xid)).1 3 = 0 := by
        rw [uBe, z_clr (mn := 0) (by omega) (by omega), upd_ne (by omega), upd_eq]
      have uB6 : (x_mo_breaksOff (z_a14 al n xid)).1 6 = br + 1 := by
        rw [uBe, z_clr (mn := 0) (by omega) (by omega), upd_eq, upd_ne (by omega), f4 6 (by omega) (by omega), r6]
      have R2 : z_R (x_mo_breaksOff (z_a14 al n xid)).1 0 (n - 1, (x_st_remove_24 (n - 1 - v) v ag id tg wt).2.1, (x_st_remove_24 (n - 1 - v) v ag id tg wt).2.2.2, (x_st_remove_24 (n - 1 - v) v ag id tg wt).1, (x_st_remove_106 v (n - 1) 0 (x_st_remove_24 (n - 1 - v) v ag id tg wt).2.2.1), (x_st_findAttackers (n - 1) (x_st_remove_24 (n - 1 - v) v ag id tg wt).2.2.2 (x_st_remove_24 (n - 1 - v) v ag id tg wt).1 (x_st_remove_106 v (n - 1) 0 (x_st_remove_24 (n - 1 - v) v ag id tg wt).2.2.1) att).2, ni, dy, 0, mv, en, wo, br + 1) := by
        unfold z_R
        simp only [Nat.zero_add]
        refine ⟨(uB _ (by omega) (by omega)).trans f3, (uB _ (by omega) (by omega)).trans ((f4 _ (by omega) (by omega)).trans r1), (uB _ (by omega) (by omega)).trans ((f4 _ (by omega) (by omega)).trans r2), uB3, (uB _ (by omega) (by omega)).trans ((f4 _ (by omega) (by omega)).trans r4), (uB _ (by omega) (by omega)).trans ((f4 _ (by omega) (by omega)).trans r5), uB6, fun j hj => ⟨?_, ?_, ?_, ?_⟩, fun p hp => absurd hp (Nat.not_lt_zero p)⟩
        · have hj : j < n - 1 := hj
          rw [uB _ (by omega) (by omega), f1 j 0 hj (by omega), hid j hj]
          exact (r7 _ (hsh j hj)).1
        · have hj : j < n - 1 := hj
          rw [uB _ (by omega) (by omega), f1 j 1 hj (by omega), hwt j hj]
          exact (r7 _ (hsh j hj)).2.1
        · have hj : j < n - 1 := hj
          rw [uB _ (by omega) (by omega), f1 j 2 hj (by omega), hag j hj]
          exact (r7 _ (hsh j hj)).2.2.1
        · have hj : j < n - 1 := hj
          rw [uB _ (by omega) (by omega)]
          exact ht14 j hj
      have W2 : z_wfB (B + 1) (n - 1, (x_st_remove_24 (n - 1 - v) v ag id tg wt).2.1, (x_st_remove_24 (n - 1 - v) v ag id tg wt).2.2.2, (x_st_remove_24 (n - 1 - v) v ag id tg wt).1, (x_st_remove_106 v (n - 1) 0 (x_st_remove_24 (n - 1 - v) v ag id tg wt).2.2.1), (x_st_findAttackers (n - 1) (x_st_remove_24 (n - 1 - v) v ag id tg wt).2.2.2 (x_st_remove_24 (n - 1 - v) v ag id tg wt).1 (x_st_remove_106 v (n - 1) 0 (x_st_remove_24 (n - 1 - v) v ag id tg wt).2.2.1) att).2, ni, dy, 0, mv, en, wo, br + 1) := by
        refine ⟨(by show n - 1 ≤ 8; omega), Nat.zero_le 12, ⟨k, by omega, k2, fun j hj => ?_⟩, fun i j hij hj => ?_, fun j hj => ?_, fun j hj => ?_, fun j hj => ?_, fun j hj => z_fa5 hj, fun p hp => absurd hp (Nat.not_lt_zero p), hct⟩
        · have hj : j < n - 1 := hj
          show ∃ m, m < k ∧ (x_st_remove_24 (n - 1 - v) v ag id tg wt).2.1 j = nI m
          rw [hid j hj]
          exact k3 _ (hsh j hj)
        · have hj : j < n - 1 := hj
          show (x_st_remove_24 (n - 1 - v) v ag id tg wt).2.1 i ≠ (x_st_remove_24 (n - 1 - v) v ag id tg wt).2.1 j
          rw [hid j hj, hid i (by omega)]
          exact w4 _ _ (hmo i j hij) (hsh j hj)
        · have hj : j < n - 1 := hj
          show ∃ m, 1 ≤ m ∧ m ≤ 9 ∧ (x_st_remove_24 (n - 1 - v) v ag id tg wt).2.2.2 j = nI m
          rw [hwt j hj]
          exact w5 _ (hsh j hj)
        · have hj : j < n - 1 := hj
          show ∃ m, m ≤ 90 ∧ (x_st_remove_24 (n - 1 - v) v ag id tg wt).1 j = nI m
          rw [hag j hj]
          exact w6 _ (hsh j hj)
        · have hj : j < n - 1 := hj
          show ∃ m, m < 2 ^ (n - 1) ∧ (x_st_remove_106 v (n - 1) 0 (x_st_remove_24 (n - 1 - v) v ag id tg wt).2.2.1) j = nI m
          obtain ⟨m, hm, em⟩ := w7 _ (hsh j hj)
          rw [htg j hj, em, (z_wo1 v (by omega) m (Nat.lt_of_lt_of_le hm h256)).1]
          exact ⟨z_wo m v, z_wo2 n (by omega) v hv m hm, rfl⟩
      rw [u1, if_pos hw, e2]
      exact ⟨Or.inl ⟨rfl, congrArg Sum.inl hval.symm, R2, W2, fun i hi => (uB i (by omega) (by omega)).trans (f5 i (by omega))⟩, (by decide : (0 : Int32) ≠ 1), (by decide : (0 : Int32) ≠ 2), rfl, rfl⟩
