/-! what all sets tell, and what the class tells -/
theorem z_subm {x y : Int32} : x &&& y = y ↔ ∀ j, j < 32 → z_bi y j = true → z_bi x j = true := by
  constructor
  · intro h j hj q
    rw [← h, z_bi_and, Bool.and_eq_true] at q
    exact q.1
  · intro h
    refine z_bi_ext fun j hj => ?_
    rw [z_bi_and]
    cases e : z_bi y j with
    | false => rw [Bool.and_false]
    | true => rw [h j hj e]; rfl
theorem z_cnt_pos {P : Nat → Bool} (n : Nat) : ¬ z_cnt P n = 0 ↔ ∃ m, m < n ∧ P m = true := by
  constructor
  · intro h
    refine Classical.byContradiction fun c => h (z_cnt_zero n fun m hm => ?_)
    cases e : P m with
    | false => rfl
    | true => exact absurd ⟨m, hm, e⟩ c
  · rintro ⟨m, hm, e⟩
    have := z_cnt_lt (P := fun _ => false) (R := P) n (fun _ _ c => by cases c) ⟨m, hm, rfl, e⟩
    omega
theorem z_cnt_all {P R : Nat → Bool} (n : Nat) : z_cnt (fun m => P m && R m) n = z_cnt P n ↔ ∀ m, m < n → P m = true → R m = true := by
  constructor
  · intro h m hm e
    cases q : R m with
    | true => rfl
    | false =>
      have := z_cnt_lt (P := fun m => P m && R m) (R := P) n (fun m _ c => by
        try dsimp only at c
        rw [Bool.and_eq_true] at c
        exact c.1) ⟨m, hm, by show (P m && R m) = false; rw [q, Bool.and_false], e⟩
      omega
  · intro h
    refine z_cnt_congr n fun m hm => ?_
    try dsimp only
    cases e : P m with
    | false => rfl
    | true => rw [h m hm e]; rfl
theorem z_cnMo {x y : Int32} : ∀ n, (∀ i, i < n → z_bi x i = true → z_bi y i = true) → z_cn x n ≤ z_cn y n := by
  intro n
  induction n with
  | zero => intro _; exact Nat.le_refl 0
  | succ n ih =>
    intro h
    have i1 := ih (fun i hi => h i (by omega))
    have i2 := h n (by omega)
    show z_cn x n + (if z_bi x n then 1 else 0) ≤ z_cn y n + (if z_bi y n then 1 else 0)
    cases e : z_bi x n with
    | false =>
      rw [if_neg Bool.false_ne_true]
      omega
    | true =>
      rw [if_pos rfl, if_pos (i2 e)]
      omega
theorem z_cnSm {x y : Int32} : ∀ n, (∀ i, i < n → z_bi x i = true → z_bi y i = true) → (∃ i, i < n ∧ z_bi x i = false ∧ z_bi y i = true) → z_cn x n < z_cn y n := by
  intro n
  induction n with
  | zero =>
    rintro _ ⟨i, hi, -⟩
    exact absurd hi (Nat.not_lt_zero i)
  | succ n ih =>
    rintro h ⟨i, hi, e1, e2⟩
    have i2 := h n (by omega)
    show z_cn x n + (if z_bi x n then 1 else 0) < z_cn y n + (if z_bi y n then 1 else 0)
    by_cases q : i = n
    · subst q
      have i1 := z_cnMo i (fun k hk => h k (by omega))
      rw [e1, e2, if_pos rfl, if_neg Bool.false_ne_true]
      omega
    · have i1 := ih (fun i hi => h i (by omega)) ⟨i, by omega, e1, e2⟩
      cases e : z_bi x n with
      | false =>
        rw [if_neg Bool.false_ne_true]
        omega
      | true =>
        rw [if_pos rfl, if_pos (i2 e)]
        omega
theorem z_cn_full {x : Int32} : ∀ n, (∀ i, i < n → z_bi x i = true) → z_cn x n = n := by
  intro n
  induction n with
  | zero => intro _; rfl
  | succ n ih =>
    intro h
    show z_cn x n + (if z_bi x n then 1 else 0) = n + 1
    rw [ih (fun i hi => h i (by omega)), h n (by omega), if_pos rfl]
theorem z_mask {n : Nat} {x : Int32} (hn : n ≤ 8) (h : z_sub n 0 x) : ∃ m, m < 2 ^ n ∧ x = nI m := by
  obtain ⟨m, hm, e⟩ := z_sub8 hn h
  refine ⟨m, Nat.lt_pow_two_of_testBit m fun i hi => ?_, e⟩
  by_cases q : i < 32
  · rw [← z_bitb q, ← e]
    cases c : z_bi x i with
    | false => rfl
    | true =>
      have := (h i q c).1
      omega
  · refine Nat.testBit_lt_two_pow (Nat.lt_of_lt_of_le hm ?_)
    exact Nat.le_trans (by decide : 256 ≤ 2 ^ 32) (Nat.pow_le_pow_right (by omega) (by omega))
section FIN
variable {B : Nat} {s : ZS}
theorem g_aof (V : z_V B s) (xs : Int32) (a : Nat) : z_bi (x_ex_attackersOf s.1 s.2.2.2.2.2.1 xs) a = true ↔ ∃ j, j < s.1 ∧ z_bi xs j = true ∧ z_bi (s.2.2.2.2.2.1 j) a = true := by
  refine (z_aofb4 V.1.1 s.1 0 0 (by omega) a).trans ?_
  rw [z_bi_0]
  constructor
  · rintro (h | ⟨j, -, h⟩)
    · cases h
    · exact ⟨j, h⟩
  · rintro ⟨j, h⟩
    exact Or.inr ⟨j, Nat.zero_le j, h⟩
theorem g_admB (V : z_V B s) (x : Nat) : zD s x = true ↔ (∀ k, k < s.1 → x.testBit k = true → ∀ a, a < 32 → z_bi (s.2.2.2.2.2.1 k) a = true → x.testBit a = false) ∧ ∀ k, k < s.1 → x.testBit k = true → ∀ a, a < 32 → z_bi (s.2.2.2.2.2.1 k) a = true → ∃ b, b < 32 ∧ z_bi (s.2.2.2.2.2.1 a) b = true ∧ x.testBit b = true := by
  have h8 := V.1.1
  have f := z_freeb (att := s.2.2.2.2.2.1) (xs := nI x) h8
  have b := z_abyb (att := s.2.2.2.2.2.1) (xs := x_ex_attackersOf s.1 s.2.2.2.2.2.1 (nI x)) (xb := nI x) h8
  have key : x_ex_isAdmissible s.1 s.2.2.2.2.2.1 (nI x) = true ↔ x_ex_isFree s.1 s.2.2.2.2.2.1 (nI x) = true ∧ x_ex_isAttackedBy s.1 s.2.2.2.2.2.1 (x_ex_attackersOf s.1 s.2.2.2.2.2.1 (nI x)) (nI x) = true := by
    unfold x_ex_isAdmissible x_ex_isFree
    split
    · split
      · rename_i q
        exact ⟨fun _ => ⟨rfl, q⟩, fun _ => rfl⟩
      · rename_i q
        exact ⟨fun c => (by cases c), fun c => absurd c.2 q⟩
    · exact ⟨fun c => (by cases c), fun c => (by cases c.1)⟩
  rw [← g_admE V, key, f, b]
  constructor
  · rintro ⟨h1, h2⟩
    refine ⟨fun k hk q a ha qa => ?_, fun k hk q a ha qa => ?_⟩
    · have := h1 k hk (by rw [z_bitb (by omega)]; exact q) a ha qa
      rwa [z_bitb ha] at this
    · obtain ⟨b, hb, q1, q2⟩ := h2 a (z_attlt V.1 hk ha qa) ((g_aof V _ a).mpr ⟨k, hk, by rw [z_bitb (by omega)]; exact q, qa⟩)
      rw [z_bitb hb] at q2
      exact ⟨b, hb, q1, q2⟩
  · rintro ⟨h1, h2⟩
    refine ⟨fun k hk q a ha qa => ?_, fun a ha q => ?_⟩
    · rw [z_bitb (by omega)] at q
      rw [z_bitb ha]
      exact h1 k hk q a ha qa
    · obtain ⟨k, hk, q1, q2⟩ := (g_aof V _ a).mp q
      rw [z_bitb (by omega)] at q1
      obtain ⟨b, hb, e1, e2⟩ := h2 k hk q1 a (by omega) q2
      exact ⟨b, hb, e1, by rw [z_bitb hb]; exact e2⟩
/-- no rejected argument is in an admissible set -/
theorem g_norej (V : z_V B s) {x : Nat} (D : zD s x = true) {j : Nat} (hj : j < s.1) (h : x.testBit j = true) : z_bi (zRj s) j = false := by
  have h8 := V.1.1
  obtain ⟨⟨k, h1, h2, rk, rr, h3, h4⟩, h5⟩ := g_lab V
  obtain ⟨-, d2⟩ := (g_admB V x).mp D
  have key : ∀ T j, j < s.1 → x.testBit j = true → z_bi (zRj s) j = true → rr j ≤ T → False := by
    intro T
    induction T with
    | zero =>
      intro j hj hx hr hT
      obtain ⟨-, b, hb, b1, b2, b3⟩ := h4 j hj hr
      obtain ⟨c, hc, c1, c2⟩ := d2 j hj hx b hb b1
      have hbn := (h1 b hb b2).1
      obtain ⟨c3, c4⟩ := (h3 b hbn b2).2 c hc c1
      omega
    | succ T ih =>
      intro j hj hx hr hT
      obtain ⟨-, b, hb, b1, b2, b3⟩ := h4 j hj hr
      obtain ⟨c, hc, c1, c2⟩ := d2 j hj hx b hb b1
      have hbn := (h1 b hb b2).1
      obtain ⟨c3, c4⟩ := (h3 b hbn b2).2 c hc c1
      exact ih c (h2 c hc c3) c2 c3 (by omega)
  cases e : z_bi (zRj s) j with
  | false => rfl
  | true => exact (key _ j hj h e (Nat.le_refl _)).elim
/-- the accepted arguments as a number -/
theorem g_acN (V : z_V B s) : ∃ G, G < 2 ^ s.1 ∧ zAc s = nI G := z_mask V.1.1 (z_subL (g_sub V))
theorem g_union (V : z_V B s) {x G : Nat} (hG : zAc s = nI G) (D : zD s x = true) : zD s (x ||| G) = true := by
  have h8 := V.1.1
  have hx := (g_admB V x).mp D
  obtain ⟨d1, d2⟩ := hx
  obtain ⟨⟨k, h1, h2, rk, rr, h3, h4⟩, h5⟩ := g_lab V
  have hg : ∀ i, i < 32 → G.testBit i = z_bi (zAc s) i := fun i hi => by rw [hG, z_bitb hi]
  refine (g_admB V _).mpr ⟨fun k hk q a ha qa => ?_, fun k hk q a ha qa => ?_⟩
  · rw [Nat.testBit_or, hg k (by omega), Bool.or_eq_true] at q
    rw [Nat.testBit_or, hg a ha]
    have han := z_attlt V.1 hk ha qa
    rcases q with q | q
    · have e1 := d1 k hk q a ha qa
      rw [e1, Bool.false_or]
      cases e : z_bi (zAc s) a with
      | false => rfl
      | true =>
        obtain ⟨b, hb, b1, b2⟩ := d2 k hk q a ha qa
        have hr := ((h3 a han e).2 b hb b1).1
        rw [g_norej V D (h2 b hb hr) b2] at hr
        cases hr
    · have hr := ((h3 k hk q).2 a ha qa).1
      have e1 : x.testBit a = false := by
        cases e : x.testBit a with
        | false => rfl
        | true =>
          rw [g_norej V D han e] at hr
          cases hr
      rw [e1, Bool.false_or]
      cases e : z_bi (zAc s) a with
      | false => rfl
      | true =>
        rw [(h1 a ha e).2] at hr
        cases hr
  · rw [Nat.testBit_or, hg k (by omega), Bool.or_eq_true] at q
    rcases q with q | q
    · obtain ⟨b, hb, b1, b2⟩ := d2 k hk q a ha qa
      exact ⟨b, hb, b1, by rw [Nat.testBit_or, b2]; rfl⟩
    · have hr := ((h3 k hk q).2 a ha qa).1
      obtain ⟨-, b, hb, b1, b2, -⟩ := h4 a (h2 a ha hr) hr
      exact ⟨b, hb, b1, by rw [Nat.testBit_or, hg b hb, b2, Bool.or_true]⟩
theorem g_D0 (V : z_V B s) : zD s 0 = true := (g_admB V 0).mpr ⟨fun k _ q => (by rw [Nat.zero_testBit] at q; cases q), fun k _ q => (by rw [Nat.zero_testBit] at q; cases q)⟩
/-- the accepted arguments are in every preferred set -/
theorem g_inall (V : z_V B s) {x : Nat} (hx : x < 2 ^ s.1) (h : z_prf (zD s) s.1 x) {j : Nat} (hj : j < 32) (e : z_bi (zAc s) j = true) : x.testBit j = true := by
  obtain ⟨G, hG, eG⟩ := g_acN V
  obtain ⟨p1, p2⟩ := h
  have hu := g_union V eG p1
  have es : x ||| G = x := by
    refine Classical.byContradiction fun c => p2 ⟨x ||| G, Nat.or_lt_two_pow hx hG, ?_, c, hu⟩
    refine z_supb.mpr fun i q => ?_
    rw [Nat.testBit_or, q]
    rfl
  rw [eG, z_bitb hj] at e
  rw [← es, Nat.testBit_or, e, Bool.or_true]
/-- what preferred sets are counted -/
theorem g_pw (V : z_V B s) (xs : Int32) : zPW s xs = nI (z_cnt (fun x => zPb s x && decide (nI x &&& xs = xs)) (2 ^ s.1)) := by
  have hp : 0 < 2 ^ s.1 := Nat.two_pow_pos _
  have key : ∀ r k, x_ex_countPreferredWith_4 (x_ex_find (fun _ => 0) (fun _ => 0) s.1 s.2.2.2.2.2.1).1 xs r k (nI (z_cnt (fun x => zPb s x && decide (nI x &&& xs = xs)) k)) = nI (z_cnt (fun x => zPb s x && decide (nI x &&& xs = xs)) (k + r)) := by
    intro r
    induction r with
    | zero => intro k; rfl
    | succ r ih =>
      intro k
      simp only [x_ex_countPreferredWith_4]
      have hc : z_cnt (fun x => zPb s x && decide (nI x &&& xs = xs)) (k + 1) = z_cnt (fun x => zPb s x && decide (nI x &&& xs = xs)) k + (if (zPb s k && decide (nI k &&& xs = xs)) then 1 else 0) := rfl
      have ih1 := ih (k + 1)
      rw [show k + 1 + r = k + (r + 1) by omega] at ih1
      by_cases e : (x_ex_find (fun _ => 0) (fun _ => 0) s.1 s.2.2.2.2.2.1).1 k = 0
      · have e2 : zPb s k = false := by
          unfold zPb
          rw [decide_eq_true e]
          rfl
        rw [e2, Bool.false_and, if_neg Bool.false_ne_true] at hc
        have hc := hc.trans (Nat.add_zero _)
        rw [if_pos e, ← hc]
        exact ih1
      · have e2 : zPb s k = true := by
          unfold zPb
          rw [decide_eq_false e]
          rfl
        rw [if_neg e]
        by_cases f : nI k &&& xs = xs
        · rw [e2, decide_eq_true f, Bool.true_and, if_pos rfl] at hc
          rw [if_pos f, show nI (z_cnt (fun x => zPb s x && decide (nI x &&& xs = xs)) k) + (1 : Int32) = nI (z_cnt (fun x => zPb s x && decide (nI x &&& xs = xs)) (k + 1)) from by rw [hc]; exact nI_add _ 1]
          exact ih1
        · rw [e2, decide_eq_false f, Bool.and_false, if_neg Bool.false_ne_true] at hc
          have hc := hc.trans (Nat.add_zero _)
          rw [if_neg f, ← hc]
          exact ih1
  have k0 := key (2 ^ s.1) 0
  rw [Nat.zero_add] at k0
  rw [← k0]
  unfold zPW x_ex_countPreferredWith x_ex_find
  rw [show 2 ^ s.1 - 1 + 1 = 2 ^ s.1 by omega]
  rfl
theorem g_pwB (s : ZS) (P : Nat → Bool) (h8 : s.1 ≤ 8) : z_cnt P (2 ^ s.1) < 2 ^ 31 := by
  have hp8 : 2 ^ s.1 ≤ 256 := Nat.pow_le_pow_right (n := 2) (by omega) h8
  have := z_cnt_le P (2 ^ s.1)
  omega
theorem g_pw0 (V : z_V B s) : zPW s 0 = nI (z_cnt (zPb s) (2 ^ s.1)) := by
  rw [g_pw V]
  congr 1
  refine z_cnt_congr _ fun m _ => ?_
  have : nI m &&& (0 : Int32) = 0 := z_bi_ext fun j _ => by rw [z_bi_and, z_bi_0, Bool.and_false]
  rw [decide_eq_true this, Bool.and_true]
theorem z_bt2 {x : Int32} {v u : Nat} (hv : v < 32) (hu : u < 32) : x &&& (zBt v ||| zBt u) = zBt v ||| zBt u ↔ z_bi x v = true ∧ z_bi x u = true := by
  rw [z_subm]
  constructor
  · intro h
    exact ⟨h v hv (by rw [z_bi_or]; unfold zBt; rw [z_bi_shl hv hv, decide_eq_true rfl]; rfl), h u hu (by rw [z_bi_or]; unfold zBt; rw [z_bi_shl hu hu, decide_eq_true rfl, Bool.or_true])⟩
  · rintro ⟨h1, h2⟩ j hj q
    rw [z_bi_or] at q
    unfold zBt at q
    rw [z_bi_shl hv hj, z_bi_shl hu hj, Bool.or_eq_true, decide_eq_true_eq, decide_eq_true_eq] at q
    rcases q with q | q
    · rw [q]; exact h1
    · rw [q]; exact h2
theorem g_pwpos (V : z_V B s) {v u : Nat} (hv : v < 32) (hu : u < 32) : ¬ zPW s (zBt v ||| zBt u) ≤ 0 ↔ ∃ x, x < 2 ^ s.1 ∧ zPb s x = true ∧ z_bi (nI x) v = true ∧ z_bi (nI x) u = true := by
  rw [g_pw V]
  have hb := g_pwB s (fun x => zPb s x && decide (nI x &&& (zBt v ||| zBt u) = zBt v ||| zBt u)) V.1.1
  have hc := z_cnt_pos (P := fun x => zPb s x && decide (nI x &&& (zBt v ||| zBt u) = zBt v ||| zBt u)) (2 ^ s.1)
  generalize z_cnt (fun x => zPb s x && decide (nI x &&& (zBt v ||| zBt u) = zBt v ||| zBt u)) (2 ^ s.1) = c at hb hc ⊢
  have e : ¬ nI c ≤ 0 ↔ ¬ c = 0 := by
    constructor
    · intro h q
      rw [q] at h
      exact h (by decide)
    · intro h q
      have := (nI_leI (b := 0) hb (by omega)).mp q
      omega
  rw [e, hc]
  constructor
  · rintro ⟨m, hm, q⟩
    try dsimp only at q
    rw [Bool.and_eq_true, decide_eq_true_eq, z_bt2 hv hu] at q
    exact ⟨m, hm, q.1, q.2.1, q.2.2⟩
  · rintro ⟨m, hm, q1, q2, q3⟩
    refine ⟨m, hm, ?_⟩
    try dsimp only
    rw [Bool.and_eq_true, decide_eq_true_eq, z_bt2 hv hu]
    exact ⟨q1, q2, q3⟩
theorem zCd_b (s : ZS) {v : Nat} (hv : v < 32) : ∀ m, z_bi (zCd s m) v = true ↔ ∃ x, x < m ∧ zPb s x = true ∧ z_bi (nI x) v = true := by
  intro m
  induction m with
  | zero =>
    show z_bi 0 v = true ↔ _
    rw [z_bi_0]
    exact ⟨fun c => (by cases c), fun ⟨x, hx, _⟩ => absurd hx (Nat.not_lt_zero x)⟩
  | succ m ih =>
    show z_bi (if zPb s m = true then zCd s m ||| nI m else zCd s m) v = true ↔ _
    constructor
    · intro h
      split at h
      · rename_i hp
        rw [z_bi_or, Bool.or_eq_true] at h
        rcases h with h | h
        · obtain ⟨x, a, b, c⟩ := ih.mp h
          exact ⟨x, by omega, b, c⟩
        · exact ⟨m, by omega, hp, h⟩
      · obtain ⟨x, a, b, c⟩ := ih.mp h
        exact ⟨x, by omega, b, c⟩
    · rintro ⟨x, a, b, c⟩
      by_cases q : x = m
      · subst q
        rw [if_pos b, z_bi_or, c, Bool.or_true]
      · have := ih.mpr ⟨x, by omega, b, c⟩
        split
        · rw [z_bi_or, this]; rfl
        · exact this
theorem zCt_b (V : z_V B s) {v : Nat} (hv : v < s.1) : ∀ m, z_bi (zCt s m) v = true ↔ ∀ x, x < m → zPb s x = true → z_bi (nI x) v = true := by
  intro m
  have h8 := V.1.1
  induction m with
  | zero =>
    show z_bi (nI (2 ^ s.1 - 1)) v = true ↔ _
    rw [z_allb s.1 (by omega) v (by omega), decide_eq_true hv]
    exact ⟨fun _ x hx => absurd hx (Nat.not_lt_zero x), fun _ => rfl⟩
  | succ m ih =>
    show z_bi (if zPb s m = true then zCt s m &&& nI m else zCt s m) v = true ↔ _
    constructor
    · intro h x hx hp
      split at h
      · rw [z_bi_and, Bool.and_eq_true] at h
        by_cases q : x = m
        · subst q
          exact h.2
        · exact ih.mp h.1 x (by omega) hp
      · rename_i hn
        by_cases q : x = m
        · subst q
          exact absurd hp hn
        · exact ih.mp h x (by omega) hp
    · intro h
      have h1 := ih.mpr fun x hx hp => h x (by omega) hp
      split
      · rename_i hp
        rw [z_bi_and, h1, h m (by omega) hp]
        rfl
      · exact h1
theorem zTg_b (s : ZS) (a b : Nat) : ∀ m, zTg s a b m = true ↔ ∃ x, x < m ∧ zPb s x = true ∧ z_bi (nI x) a = true ∧ z_bi (nI x) b = true := by
  intro m
  induction m with
  | zero => exact ⟨fun c => (by cases c), fun ⟨x, hx, _⟩ => absurd hx (Nat.not_lt_zero x)⟩
  | succ m ih =>
    show (if zPb s m = true then (zTg s a b m || (z_bi (nI m) a && z_bi (nI m) b)) else zTg s a b m) = true ↔ _
    constructor
    · intro h
      split at h
      · rename_i hp
        rw [Bool.or_eq_true, Bool.and_eq_true] at h
        rcases h with h | h
        · obtain ⟨x, a, b⟩ := ih.mp h
          exact ⟨x, by omega, b⟩
        · exact ⟨m, by omega, hp, h⟩
      · obtain ⟨x, a, b⟩ := ih.mp h
        exact ⟨x, by omega, b⟩
    · rintro ⟨x, h1, h2, h3⟩
      by_cases q : x = m
      · subst q
        rw [if_pos h2, h3.1, h3.2]
        simp
      · have := ih.mpr ⟨x, by omega, h2, h3⟩
        split
        · rw [this]; rfl
        · exact this
/-- credible, as all sets tell -/
theorem g_cred (V : z_V B s) {v : Nat} (hv : v < s.1) : z_b (decide (¬ zPW s (zBt v ||| zBt v) ≤ 0)) = if (zCd s (2 ^ s.1) >>> (nI v &&& 31)) &&& 1 = 1 then 1 else 0 := by
  have h8 := V.1.1
  have h1 := g_pwpos V (v := v) (u := v) (by omega) (by omega)
  have h2 := zCd_b s (v := v) (by omega) (2 ^ s.1)
  have h3 := z_bit1 (zCd s (2 ^ s.1)) (show v < 32 by omega)
  have e : ¬ zPW s (zBt v ||| zBt v) ≤ 0 ↔ (zCd s (2 ^ s.1) >>> (nI v &&& 31)) &&& 1 = 1 := by
    rw [h1, h3, h2]
    exact ⟨fun ⟨x, a, b, c, _⟩ => ⟨x, a, b, c⟩, fun ⟨x, a, b, c⟩ => ⟨x, a, b, c, c⟩⟩
  by_cases c : (zCd s (2 ^ s.1) >>> (nI v &&& 31)) &&& 1 = 1
  · rw [if_pos c, decide_eq_true (e.mpr c)]; rfl
  · rw [if_neg c, decide_eq_false (fun q => c (e.mp q))]; rfl
theorem g_certI (V : z_V B s) {v : Nat} (hv : v < s.1) : zPW s (zBt v) = zPW s 0 ↔ ∀ x, x < 2 ^ s.1 → zPb s x = true → z_bi (nI x) v = true := by
  have h8 := V.1.1
  have eb : zBt v = zBt v ||| zBt v := z_bi_ext fun j _ => by rw [z_bi_or, Bool.or_self]
  rw [g_pw0 V, g_pw V, nI_eq (g_pwB s _ h8) (g_pwB s _ h8), z_cnt_all (P := zPb s) (R := fun x => decide (nI x &&& zBt v = zBt v))]
  have e : ∀ x : Nat, nI x &&& zBt v = zBt v ↔ z_bi (nI x) v = true := fun x => by
    rw [eb, z_bt2 (by omega) (by omega)]
    exact ⟨fun h => h.1, fun h => ⟨h, h⟩⟩
  constructor
  · intro h x hx hp
    have := h x hx hp
    try dsimp only at this
    rw [decide_eq_true_eq] at this
    exact (e x).mp this
  · intro h x hx hp
    try dsimp only
    rw [decide_eq_true_eq]
    exact (e x).mpr (h x hx hp)
theorem g_cert (V : z_V B s) {v : Nat} (hv : v < s.1) : z_b (decide (zPW s (zBt v) = zPW s 0)) = if (zCt s (2 ^ s.1) >>> (nI v &&& 31)) &&& 1 = 1 then 1 else 0 := by
  have h8 := V.1.1
  have h3 := z_bit1 (zCt s (2 ^ s.1)) (show v < 32 by omega)
  have e : zPW s (zBt v) = zPW s 0 ↔ (zCt s (2 ^ s.1) >>> (nI v &&& 31)) &&& 1 = 1 := by
    rw [g_certI V hv, h3, zCt_b V hv]
  by_cases c : (zCt s (2 ^ s.1) >>> (nI v &&& 31)) &&& 1 = 1
  · rw [if_pos c, decide_eq_true (e.mpr c)]; rfl
  · rw [if_neg c, decide_eq_false (fun q => c (e.mp q))]; rfl
theorem g_sure (V : z_V B s) {v : Nat} (hv : v < s.1) (h : zLt s v = 97) : z_b (decide (zPW s (zBt v) = zPW s 0)) = 1 := by
  have h8 := V.1.1
  have ha : z_bi (zAc s) v = true := by
    cases e : z_bi (zAc s) v with
    | true => rfl
    | false =>
      cases e2 : z_bi (zRj s) v with
      | true => rw [g_ltR (by omega) e e2] at h; exact absurd h (by decide)
      | false => rw [g_ltU (by omega) e e2] at h; exact absurd h (by decide)
  rw [decide_eq_true ((g_certI V hv).mpr fun x hx hp => ?_)]
  · rfl
  · rw [z_bitb (by omega)]
    exact g_inall V hx ((g_pb V hx).mp hp) (by omega) ha
theorem g_tog (V : z_V B s) {v u : Nat} (hv : v < s.1) (hu : u < s.1) : z_b (decide (¬ zPW s (zBt v ||| zBt u) ≤ 0)) = z_b (zTg s v u (2 ^ s.1)) := by
  have h8 := V.1.1
  have h1 := g_pwpos V (v := v) (u := u) (by omega) (by omega)
  have h2 := zTg_b s v u (2 ^ s.1)
  congr 1
  cases e : zTg s v u (2 ^ s.1) with
  | true => exact decide_eq_true (h1.mpr (h2.mp e))
  | false =>
    refine decide_eq_false fun c => ?_
    rw [h2.mpr (h1.mp c)] at e
    cases e
/-- labels: accepted iff all attackers are rejected -/
theorem g_acI (V : z_V B s) {v : Nat} (hv : v < s.1) : s.2.2.2.2.2.1 v &&& (zRj s ^^^ (-1 : Int32)) = 0 ↔ z_bi (zAc s) v = true := by
  have h8 := V.1.1
  obtain ⟨⟨k, h1, h2, rk, rr, h3, h4⟩, h5⟩ := g_lab V
  constructor
  · intro h
    have hall : ∀ a, a < 32 → z_bi (s.2.2.2.2.2.1 v) a = true → z_bi (zRj s) a = true := fun a ha q => by
      have := z_and0' h q
      rw [z_bi_not _ ha] at this
      simpa using this
    cases e : z_bi (zAc s) v with
    | true => rfl
    | false =>
      cases e2 : z_bi (zRj s) v with
      | true =>
        obtain ⟨-, b, hb, b1, b2, -⟩ := h4 v hv e2
        have := hall b hb b1
        rw [(h1 b hb b2).2] at this
        cases this
      | false =>
        obtain ⟨⟨a, ha, a1, a2⟩, -⟩ := h5 v hv e e2
        rw [hall a ha a1] at a2
        cases a2
  · intro h
    refine z_and0 fun a ha q => ?_
    rw [z_bi_not _ ha, ((h3 v hv h).2 a ha q).1]
    rfl
theorem g_rjI (V : z_V B s) {v : Nat} (hv : v < s.1) : s.2.2.2.2.2.1 v &&& zAc s = 0 ↔ z_bi (zRj s) v = false := by
  have h8 := V.1.1
  obtain ⟨⟨k, h1, h2, rk, rr, h3, h4⟩, h5⟩ := g_lab V
  constructor
  · intro h
    cases e : z_bi (zRj s) v with
    | false => rfl
    | true =>
      obtain ⟨-, b, hb, b1, b2, -⟩ := h4 v hv e
      rw [z_and0' h b1] at b2
      cases b2
  · intro h
    refine z_and0 fun a ha q => ?_
    cases e : z_bi (zAc s) v with
    | true =>
      have hr := ((h3 v hv e).2 a ha q).1
      cases e2 : z_bi (zAc s) a with
      | false => rfl
      | true =>
        rw [(h1 a ha e2).2] at hr
        cases hr
    | false => exact (h5 v hv e h).2 a ha q
/-- no cycle: all is decided, one set is preferred -/
theorem g_acyc (V : z_V B s) (h : x_cy_remain s.1 s.2.2.2.2.2.1 = false) : z_cn (zAc s ||| zRj s) s.1 = s.1 ∧ z_cnt (zPb s) (2 ^ s.1) = 1 := by
  have h8 := V.1.1
  have hz : x_cy_remain_7 s.1 s.2.2.2.2.2.1 s.1 0 (nI (2 ^ s.1 - 1)) = 0 := by
    unfold x_cy_remain at h
    try dsimp only at h
    split at h
    · assumption
    · cases h
  obtain ⟨T, hT⟩ := z_cyI7 (att := s.2.2.2.2.2.1) h8 (z_attS V.1) s.1 0 (nI (2 ^ s.1 - 1)) 0 ⟨fun _ => 0, fun k hk q => by
    rw [z_allb s.1 (by omega) k (by omega), decide_eq_true hk] at q
    cases q⟩
  rw [hz] at hT
  obtain ⟨rk0, hrk⟩ := hT
  obtain ⟨⟨k, h1, h2, rk, rr, h3, h4⟩, h5⟩ := g_lab V
  have key : ∀ T j, j < s.1 → rk0 j ≤ T → z_bi (zAc s) j = false → z_bi (zRj s) j = false → False := by
    intro T
    induction T with
    | zero =>
      intro j hj hT e1 e2
      obtain ⟨⟨a, ha, a1, a2⟩, -⟩ := h5 j hj e1 e2
      have := ((hrk j hj (z_bi_0 j)).2 a ha a1).2.2
      omega
    | succ T ih =>
      intro j hj hT e1 e2
      obtain ⟨⟨a, ha, a1, a2⟩, q⟩ := h5 j hj e1 e2
      obtain ⟨l1, -, l3⟩ := (hrk j hj (z_bi_0 j)).2 a ha a1
      exact ih a l1 (by omega) (q a ha a1) a2
  have hall : ∀ j, j < s.1 → z_bi (zAc s ||| zRj s) j = true := fun j hj => by
    rw [z_bi_or]
    cases e1 : z_bi (zAc s) j with
    | true => rfl
    | false =>
      cases e2 : z_bi (zRj s) j with
      | true => rfl
      | false => exact (key _ j hj (Nat.le_refl _) e1 e2).elim
  refine ⟨z_cn_full _ hall, ?_⟩
  obtain ⟨G, hG, eG⟩ := g_acN V
  have hsup : ∀ x, x < 2 ^ s.1 → zD s x = true → (∀ i, G.testBit i = true → x.testBit i = true) → x = G := fun x hx hD hs => by
    refine Nat.eq_of_testBit_eq fun i => ?_
    cases e : G.testBit i with
    | true => exact hs i e
    | false =>
      cases e2 : x.testBit i with
      | false => rfl
      | true =>
        have hi : i < s.1 := z_bitlt hx e2
        have ea : z_bi (zAc s) i = false := by rw [eG, z_bitb (by omega)]; exact e
        have := hall i hi
        rw [z_bi_or, ea, g_norej V hD hi e2] at this
        cases this
  have hDG : zD s G = true := by
    have := g_union V eG (g_D0 V)
    rwa [Nat.zero_or] at this
  have hpG : zPb s G = true := (g_pb V hG).mpr ⟨hDG, fun ⟨x, x1, x2, x3, x4⟩ => x3 (hsup x x1 x4 (z_supb.mp x2))⟩
  rw [z_cnt_one (P := zPb s) (a := G) _ hG fun m hm hne => ?_, if_pos hpG]
  cases e : zPb s m with
  | false => rfl
  | true =>
    have hp := (g_pb V hm).mp e
    refine absurd (hsup m hm hp.1 fun i q => ?_) hne
    have hi : i < s.1 := z_bitlt hG q
    exact g_inall V hm hp (by omega) (by rw [eG, z_bitb (by omega)]; exact q)
/-- the order by strength -/
theorem g_ord (V : z_V B s) {k va vb : Nat} (ha : va < s.1) (hb : vb < s.1) (ea : zRk s va = k - 1) (eb : zRk s vb = k) (hk : 1 ≤ k) : ∃ a b ca cb : Nat, a ≤ 9 ∧ b ≤ 9 ∧ ca < 10 ∧ cb < 10 ∧ zStr s va = nI a ∧ zStr s vb = nI b ∧ z_bc (s.2.2.2.2.2.1 va) = nI ca ∧ z_bc (s.2.2.2.2.2.1 vb) = nI cb ∧ (b < a ∨ (a = b ∧ (ca < cb ∨ (ca = cb ∧ va < vb)))) := by
  have h8 := V.1.1
  obtain ⟨a, ca, a1, a2, a3, a4, a5⟩ := g_keyE V ha
  obtain ⟨b, cb, b1, b2, b3, b4, b5⟩ := g_keyE V hb
  have hlt : zKey s va < zKey s vb := by
    refine Nat.lt_of_not_le fun c => ?_
    rcases Nat.lt_or_eq_of_le c with c | c
    · have := g_rkm V hb c
      omega
    · rw [g_keyI V hb ha c] at eb
      omega
  refine ⟨a, b, ca, cb, a1, b1, a2, b2, a3, b3, a4, b4, ?_⟩
  rw [a5, b5] at hlt
  omega
/-- rounds are between 1 and the number of arguments -/
theorem z_faS {ac rj : Int32} {att : Nat → Int32} {n : Nat} : ∀ r k c, k + r = n → n ≤ 8 → z_sub n 0 c → z_sub n 0 (x_lb_findAcceptable_4 ac rj att r k c) := by
  intro r
  induction r with
  | zero => intro k c _ _ h; exact h
  | succ r ih =>
    intro k c hk hn h
    have h2 : z_sub n 0 (c ||| ((1 : Int32) <<< ((nI (k)) &&& 31))) := fun j hj q => by
      rw [z_bi_or, z_bi_shl (by omega) hj, Bool.or_eq_true, decide_eq_true_eq] at q
      rcases q with q | q
      · exact h j hj q
      · exact ⟨by omega, z_bi_0 j⟩
    simp only [x_lb_findAcceptable_4]
    repeat' split
    all_goals first | exact ih _ _ (by omega) hn h2 | exact ih _ _ (by omega) hn h
theorem z_frS {ac rj : Int32} {att : Nat → Int32} {n : Nat} : ∀ r k c, k + r = n → n ≤ 8 → z_sub n 0 c → z_sub n 0 (x_lb_findRejectable_4 ac rj att r k c) := by
  intro r
  induction r with
  | zero => intro k c _ _ h; exact h
  | succ r ih =>
    intro k c hk hn h
    have h2 : z_sub n 0 (c ||| ((1 : Int32) <<< ((nI (k)) &&& 31))) := fun j hj q => by
      rw [z_bi_or, z_bi_shl (by omega) hj, Bool.or_eq_true, decide_eq_true_eq] at q
      rcases q with q | q
      · exact h j hj q
      · exact ⟨by omega, z_bi_0 j⟩
    simp only [x_lb_findRejectable_4]
    repeat' split
    all_goals first | exact ih _ _ (by omega) hn h2 | exact ih _ _ (by omega) hn h
def z_rdI (n : Nat) (x : Int32) (ro : Nat → Int32) : Prop := ∀ j, j < n → z_bi x j = true → ∃ m, 1 ≤ m ∧ m ≤ n ∧ ro j = nI m
theorem z_gv14 {att : Nat → Int32} {n : Nat} (hn : n ≤ 8) : ∀ r k c ac rj ro, 1 ≤ k → (¬ c = 0 → k ≤ z_cn (ac ||| rj) n + 1) → z_sub n 0 (ac ||| rj) → z_rdI n (ac ||| rj) ro → z_rdI n ((x_lb_give_14 n att r k c ac rj ro).1 ||| (x_lb_give_14 n att r k c ac rj ro).2.1) (x_lb_give_14 n att r k c ac rj ro).2.2 := by
  intro r
  induction r with
  | zero =>
    intro k c ac rj ro hk hc hs hI
    simp only [x_lb_give_14]
    split <;> exact hI
  | succ r ih =>
    intro k c ac rj ro hk hc hs hI
    simp only [x_lb_give_14]
    by_cases q : c = 0
    · rw [if_pos q]
      exact hI
    · rw [if_neg q]
      have hfa : z_sub n 0 (x_lb_findAcceptable ac rj n att) := z_faS n 0 0 (by omega) hn z_sub0
      have hfr : z_sub n 0 (x_lb_findRejectable (ac ||| x_lb_findAcceptable ac rj n att) rj n att) := z_frS n 0 0 (by omega) hn z_sub0
      generalize x_lb_findAcceptable ac rj n att = fa at hfa hfr ⊢
      generalize x_lb_findRejectable (ac ||| fa) rj n att = fr at hfr ⊢
      have hk1 := hc q
      have hs2 : z_sub n 0 ((ac ||| fa) ||| (rj ||| fr)) := fun j hj p => by
        rw [z_bi_or, z_bi_or, z_bi_or] at p
        simp only [Bool.or_eq_true] at p
        rcases p with (p | p) | (p | p)
        · exact hs j hj (by rw [z_bi_or, p]; rfl)
        · exact hfa j hj p
        · exact hs j hj (by rw [z_bi_or, p, Bool.or_true])
        · exact hfr j hj p
      have hup : ∀ i, z_bi (ac ||| rj) i = true → z_bi ((ac ||| fa) ||| (rj ||| fr)) i = true := fun i p => by
        rw [z_bi_or] at p
        rw [z_bi_or, z_bi_or, z_bi_or]
        simp only [Bool.or_eq_true] at p ⊢
        rcases p with p | p
        · exact Or.inl (Or.inl p)
        · exact Or.inr (Or.inl p)
      have hI2 : z_rdI n ((ac ||| fa) ||| (rj ||| fr)) (x_lb_noteRound ro (((ac ||| fa) ||| (rj ||| fr)) &&& ((ac ||| rj) ^^^ (-1 : Int32))) (nI k)) := fun j hj p => by
        have en := z_note (xs := (((ac ||| fa) ||| (rj ||| fr)) &&& ((ac ||| rj) ^^^ (-1 : Int32)))) (xr := nI k) 8 0 ro j (by omega)
        have en : x_lb_noteRound ro (((ac ||| fa) ||| (rj ||| fr)) &&& ((ac ||| rj) ^^^ (-1 : Int32))) (nI k) j = _ := en
        rw [en]
        cases e : z_bi (ac ||| rj) j with
        | true =>
          rw [if_neg (fun c => by
            have := c.2.2
            rw [z_bi_and, z_bi_not _ (by omega), e, Bool.not_true, Bool.and_false] at this
            cases this)]
          exact hI j hj e
        | false =>
          rw [if_pos ⟨by omega, by omega, by rw [z_bi_and, z_bi_not _ (by omega), e, p]; rfl⟩]
          have hlt : z_cn (ac ||| rj) n < n := by
            have := z_cnSm (x := ac ||| rj) (y := (-1 : Int32)) n (fun i hi _ => z_bi_m1 (by omega)) ⟨j, hj, e, z_bi_m1 (by omega)⟩
            have := z_cn_le (-1 : Int32) n
            omega
          exact ⟨k, hk, by omega, rfl⟩
      by_cases e : ((ac ||| fa) ||| (rj ||| fr)) &&& ((ac ||| rj) ^^^ (-1 : Int32)) = 0
      · rw [if_pos e]
        exact ih _ _ _ _ _ (by omega) (fun c => absurd rfl c) hs2 hI2
      · rw [if_neg e]
        refine ih _ _ _ _ _ (by omega) (fun _ => ?_) hs2 hI2
        obtain ⟨j, hj, p⟩ := z_ne0 e
        rw [z_bi_and, z_bi_not _ hj, Bool.and_eq_true] at p
        have hjn := (hs2 j hj p.1).1
        have hx : z_bi (ac ||| rj) j = false := by simpa using p.2
        have := z_cnSm n (fun i _ => hup i) ⟨j, hjn, hx, p.1⟩
        omega
theorem g_rd (V : z_V B s) {v : Nat} (hv : v < s.1) (h : z_bi (zAc s ||| zRj s) v = true) : ∃ m, 1 ≤ m ∧ m ≤ s.1 ∧ zRd s v = nI m := by
  have k0 := z_gv14 (att := s.2.2.2.2.2.1) V.1.1 8 1 1 0 0 (fun _ => 0) (by omega) (fun _ => by omega) (by rw [show (0 : Int32) ||| 0 = 0 from rfl]; exact z_sub0) (fun j _ p => by
    rw [show (0 : Int32) ||| 0 = 0 from rfl, z_bi_0] at p
    cases p)
  exact k0 v hv h
theorem g_rdk (V : z_V B s) {v : Nat} (hv : v < s.1) : ((if (if zLt s v = 117 then (-30000 : Int32) else zRd s v) = -30000 then 1 else 0 : Int32) = if zLt s v = 117 then 1 else 0) ∧ (¬ (if zLt s v = 117 then (-30000 : Int32) else zRd s v) = -30000 → ∃ m, 1 ≤ m ∧ m ≤ s.1 ∧ (if zLt s v = 117 then (-30000 : Int32) else zRd s v) = nI m) := by
  have h8 := V.1.1
  by_cases e : zLt s v = 117
  · rw [if_pos e, if_pos e]
    exact ⟨rfl, fun c => absurd rfl c⟩
  · rw [if_neg e, if_neg e]
    have hb : z_bi (zAc s ||| zRj s) v = true := by
      rw [z_bi_or]
      cases e1 : z_bi (zAc s) v with
      | true => rfl
      | false =>
        cases e2 : z_bi (zRj s) v with
        | true => rfl
        | false => exact absurd (g_ltU (by omega) e1 e2) e
    obtain ⟨m, m1, m2, em⟩ := g_rd V hv hb
    rw [em]
    refine ⟨?_, fun _ => ⟨m, m1, m2, rfl⟩⟩
    rw [if_neg (fun c => ?_)]
    have h0 : (0 : Int32) ≤ nI m := (nI_leI (a := 0) (by omega) (by omega)).mpr (by omega)
    rw [c] at h0
    exact absurd h0 (by decide)
end FIN
