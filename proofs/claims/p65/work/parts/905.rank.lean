/-! orders: ranks are a permutation -/
theorem pigeon : ∀ (n : Nat) (f : Nat → Nat), (∀ i, i < n → f i < n) → (∀ i j, i < n → j < n → f i = f j → i = j) → ∀ r, r < n → ∃ i, i < n ∧ f i = r := by
  intro n
  induction n with
  | zero =>
    intro f _ _ r hr
    omega
  | succ n ih =>
    intro f hb hi r hr
    have key := ih (fun i => if f i = n then f n else f i) (fun i h => by
      try dsimp only
      have h1 := hb i (by omega)
      have h2 := hb n (by omega)
      by_cases e : f i = n
      · rw [if_pos e]
        have : f n ≠ n := fun c => by
          have := hi i n (by omega) (by omega) (e.trans c.symm)
          omega
        omega
      · rw [if_neg e]
        omega) (fun i j h1 h2 e => by
      try dsimp only at e
      by_cases e1 : f i = n
      · by_cases e2 : f j = n
        · exact hi i j (by omega) (by omega) (e1.trans e2.symm)
        · rw [if_pos e1, if_neg e2] at e
          have := hi n j (by omega) (by omega) e
          omega
      · by_cases e2 : f j = n
        · rw [if_neg e1, if_pos e2] at e
          have := hi i n (by omega) (by omega) e
          omega
        · rw [if_neg e1, if_neg e2] at e
          exact hi i j (by omega) (by omega) e)
    by_cases e1 : r = f n
    · exact ⟨n, by omega, e1.symm⟩
    · by_cases e2 : r = n
      · have h2 := hb n (by omega)
        by_cases e3 : f n = n
        · exact absurd (e2.trans e3.symm) e1
        · obtain ⟨i, h, e⟩ := key (f n) (by omega)
          try dsimp only at e
          by_cases e4 : f i = n
          · exact ⟨i, by omega, e4.trans e2.symm⟩
          · rw [if_neg e4] at e
            have := hi i n (by omega) (by omega) e
            omega
      · obtain ⟨i, h, e⟩ := key r (by omega)
        try dsimp only at e
        by_cases e4 : f i = n
        · rw [if_pos e4] at e
          exact absurd e.symm e1
        · rw [if_neg e4] at e
          exact ⟨i, by omega, e⟩
theorem z_cnt_le (P : Nat → Bool) : ∀ n, z_cnt P n ≤ n := by
  intro n
  induction n with
  | zero => exact Nat.le_refl 0
  | succ n ih =>
    simp only [z_cnt]
    split <;> omega
theorem z_cnt_mono {P R : Nat → Bool} : ∀ n, (∀ m, m < n → P m = true → R m = true) → z_cnt P n ≤ z_cnt R n := by
  intro n
  induction n with
  | zero =>
    intro _
    exact Nat.le_refl 0
  | succ n ih =>
    intro h
    simp only [z_cnt]
    have := ih (fun m hm => h m (by omega))
    by_cases e : P n = true
    · rw [if_pos e, if_pos (h n (by omega) e)]
      omega
    · rw [if_neg e]
      split <;> omega
theorem z_cnt_lt {P R : Nat → Bool} : ∀ n, (∀ m, m < n → P m = true → R m = true) → (∃ m, m < n ∧ P m = false ∧ R m = true) → z_cnt P n < z_cnt R n := by
  intro n
  induction n with
  | zero =>
    rintro _ ⟨m, h, -⟩
    omega
  | succ n ih =>
    rintro h ⟨m, hm, e1, e2⟩
    simp only [z_cnt]
    by_cases q : m = n
    · subst q
      have := z_cnt_mono (P := P) (R := R) m (fun i hi => h i (by omega))
      rw [if_neg (by rw [e1]; exact Bool.false_ne_true), if_pos e2]
      omega
    · have := ih (fun i hi => h i (by omega)) ⟨m, by omega, e1, e2⟩
      by_cases e : P n = true
      · rw [if_pos e, if_pos (h n (by omega) e)]
        omega
      · rw [if_neg e]
        split <;> omega
def zKey (s : ZS) (j : Nat) : Nat := (9 - (zStr s j).toNatClampNeg) * 200 + (z_bc (s.2.2.2.2.2.1 j)).toNatClampNeg * 10 + j
def zRk (s : ZS) (j : Nat) : Nat := z_cnt (fun k => decide (zKey s k < zKey s j)) s.1
section RANK
variable {B : Nat} {s : ZS}
theorem g_keyE (V : z_V B s) {j : Nat} (hj : j < s.1) : ∃ a b, a ≤ 9 ∧ b < 10 ∧ zStr s j = nI a ∧ z_bc (s.2.2.2.2.2.1 j) = nI b ∧ zKey s j = (9 - a) * 200 + b * 10 + j := by
  obtain ⟨a, ha, ea⟩ := z_strB V.1 hj
  obtain ⟨b, hb, eb⟩ := z_bcB V.1 hj
  have ea' : zStr s j = nI a := ea
  refine ⟨a, b, ha, hb, ea', eb, ?_⟩
  unfold zKey
  rw [ea', eb, nI_clamp (by omega), nI_clamp (by omega)]
theorem g_bef (V : z_V B s) {i j : Nat} (hi : i < s.1) (hj : j < s.1) : x_st_isBefore s.2.2.1 s.2.2.2.1 s.2.2.2.2.2.1 i j = decide (zKey s i < zKey s j) := by
  obtain ⟨a, b, ha, hb, ea, eb, ek⟩ := g_keyE V hi
  obtain ⟨c, d, hc, hd, ec, ed, em⟩ := g_keyE V hj
  have h8 := V.1.1
  unfold zStr at ea ec
  unfold x_st_isBefore
  rw [ea, eb, ec, ed, ek, em]
  obtain ⟨-, -, f3, f4⟩ := z_d10 a (by omega) c (by omega)
  obtain ⟨-, -, g3, -⟩ := z_d10 b hb d hd
  obtain ⟨-, -, -, g4⟩ := z_d10 d hd b hb
  simp only [f3, f4, g3, g4]
  by_cases q1 : a = c
  · subst q1
    rw [if_pos rfl]
    by_cases q2 : b = d
    · subst q2
      rw [if_pos rfl]
      by_cases q3 : j ≤ i
      · rw [if_pos q3, decide_eq_false (by omega)]
      · rw [if_neg q3, decide_eq_true (by omega)]
    · rw [if_neg q2]
      by_cases q3 : d ≤ b
      · rw [if_pos q3, decide_eq_false (by omega)]
      · rw [if_neg q3, decide_eq_true (by omega)]
  · rw [if_neg q1]
    by_cases q3 : a ≤ c
    · rw [if_pos q3, decide_eq_false (by omega)]
    · rw [if_neg q3, decide_eq_true (by omega)]
theorem g_keyI (V : z_V B s) {i j : Nat} (hi : i < s.1) (hj : j < s.1) (e : zKey s i = zKey s j) : i = j := by
  obtain ⟨a, b, ha, hb, -, -, ek⟩ := g_keyE V hi
  obtain ⟨c, d, hc, hd, -, -, em⟩ := g_keyE V hj
  have h8 := V.1.1
  omega
theorem g_rank4 (V : z_V B s) {j : Nat} (hj : j < s.1) : ∀ r k, k + r = s.1 → x_st_rank_4 s.2.2.1 s.2.2.2.1 s.2.2.2.2.2.1 j r k (nI (z_cnt (fun k => decide (zKey s k < zKey s j)) k)) = nI (zRk s j) := by
  intro r
  induction r with
  | zero =>
    intro k hk
    have e : k = s.1 := by omega
    subst e
    rfl
  | succ r ih =>
    intro k hk
    have i := ih (k + 1) (by omega)
    simp only [z_cnt] at i
    simp only [x_st_rank_4]
    by_cases e : k = j
    · subst e
      rw [if_pos rfl]
      rw [if_neg (by rw [decide_eq_false (Nat.lt_irrefl _)]; exact Bool.false_ne_true)] at i
      exact i
    · rw [if_neg e, g_bef V (by omega) hj]
      by_cases q : zKey s k < zKey s j
      · rw [if_pos (decide_eq_true q)] at i ⊢
        rw [← nI_add] at i
        exact i
      · rw [if_neg (by rw [decide_eq_false q]; exact Bool.false_ne_true)] at i ⊢
        exact i
theorem g_rank (V : z_V B s) {j : Nat} (hj : j < s.1) : x_st_rank s.1 s.2.2.1 s.2.2.2.1 s.2.2.2.2.2.1 j = nI (zRk s j) := g_rank4 V hj s.1 0 (by omega)
theorem g_rkm (V : z_V B s) {i j : Nat} (hi : i < s.1) (h : zKey s i < zKey s j) : zRk s i < zRk s j := by
  refine z_cnt_lt s.1 (fun m hm q => ?_) ⟨i, hi, decide_eq_false (Nat.lt_irrefl _), decide_eq_true h⟩
  rw [decide_eq_true_eq] at q ⊢
  omega
theorem g_rkn (V : z_V B s) {j : Nat} (hj : j < s.1) : zRk s j < s.1 := by
  have h : zRk s j < z_cnt (fun _ => true) s.1 := z_cnt_lt s.1 (fun m hm q => rfl) ⟨j, hj, decide_eq_false (Nat.lt_irrefl _), rfl⟩
  have := z_cnt_le (fun _ => true) s.1
  omega
theorem g_rkI (V : z_V B s) {i j : Nat} (hi : i < s.1) (hj : j < s.1) (e : zRk s i = zRk s j) : i = j := by
  rcases Nat.lt_trichotomy (zKey s i) (zKey s j) with q | q | q
  · have := g_rkm V hi q
    omega
  · exact g_keyI V hi hj q
  · have := g_rkm V hj q
    omega
/-- each rank is somebody's -/
theorem g_rkS (V : z_V B s) {r : Nat} (hr : r < s.1) : ∃ v, v < s.1 ∧ zRk s v = r := pigeon s.1 (zRk s) (fun i hi => g_rkn V hi) (fun i j hi hj e => g_rkI V hi hj e) r hr
theorem u_abs2 (V : z_V B s) {v : Nat} (hv : v < s.1) : ∀ r k, k + r = s.1 → k ≤ v → x_am_argumentByStrength_2 s.1 s.2.1 s.2.2.1 s.2.2.2.1 s.2.2.2.2.2.1 (nI (zRk s v)) r k = .inr (.inl (s.2.1 v)) := by
  have h8 := V.1.1
  intro r
  induction r with
  | zero =>
    intro k h1 h2
    omega
  | succ r ih =>
    intro k h1 h2
    simp only [x_am_argumentByStrength_2]
    rw [g_rank V (by omega : k < s.1)]
    by_cases e : k = v
    · subst e
      rw [if_pos rfl]
    · have a := g_rkn V (by omega : k < s.1)
      have b := g_rkn V hv
      rw [if_neg (fun c => e (g_rkI V (by omega) hv ((nI_eq (by omega) (by omega)).mp c)))]
      exact ih (k + 1) (by omega) (by omega)
theorem u_absN (V : z_V B s) : ∀ r k, k + r = s.1 → x_am_argumentByStrength_2 s.1 s.2.1 s.2.2.1 s.2.2.2.1 s.2.2.2.2.2.1 (nI s.1) r k = .inl () := by
  have h8 := V.1.1
  intro r
  induction r with
  | zero =>
    intro k h1
    rfl
  | succ r ih =>
    intro k h1
    simp only [x_am_argumentByStrength_2]
    rw [g_rank V (by omega : k < s.1)]
    have a := g_rkn V (by omega : k < s.1)
    rw [if_neg (fun c => by
      have := (nI_eq (by omega) (by omega)).mp c
      omega)]
    exact ih (k + 1) (by omega)
theorem u_abs (V : z_V B s) {v : Nat} (hv : v < s.1) : x_am_argumentByStrength s.1 s.2.1 s.2.2.1 s.2.2.2.1 s.2.2.2.2.2.1 (nI (zRk s v)) = .inl (s.2.1 v) := by
  unfold x_am_argumentByStrength
  rw [u_abs2 V hv s.1 0 (by omega) (by omega)]
theorem u_absn (V : z_V B s) : x_am_argumentByStrength s.1 s.2.1 s.2.2.1 s.2.2.2.1 s.2.2.2.2.2.1 (nI s.1) = .inr "java/util/NoSuchElementException" := by
  unfold x_am_argumentByStrength
  rw [u_absN V s.1 0 (by omega)]
/-- canMove answers, or throws what is caught -/
theorem u_can (V : z_V B s) (xid : Int32) : (∃ v, x_am_canMove s.1 s.2.1 s.2.2.2.2.2.1 s.2.2.2.2.2.2.2.2.1 s.2.2.2.2.2.2.2.2.2.1 xid = .inl v) ∨ x_am_canMove s.1 s.2.1 s.2.2.2.2.2.1 s.2.2.2.2.2.2.2.2.1 s.2.2.2.2.2.2.2.2.2.1 xid = .inr "java/util/NoSuchElementException" := by
  unfold x_am_canMove x_st_slotOfReply x_dl_mustBeHeld
  by_cases hm : s.2.2.2.2.2.2.2.2.1 = 0
  · rw [if_pos hm]
    exact Or.inr rfl
  · rw [if_neg hm]
    rcases z_find V.R xid with ⟨a, b, c⟩ | ⟨v, hv, a, b, c, d⟩
    · rw [c]
      exact Or.inr rfl
    · rw [c]
      dsimp only
      rw [z_allow V.1 V.R hm hv a d]
      dsimp only
      cases x_mo_isAllowed (zAl s) s.1 s.2.2.2.2.2.2.2.2.1 xid with
      | false => exact Or.inl ⟨_, rfl⟩
      | true =>
        rw [if_pos rfl]
        split <;> exact Or.inl ⟨_, rfl⟩
end RANK
