section CYC
variable {al att : Nat → Int32} {n : Nat}
/-- one pass of the class is one of the reference; a pass that finds nothing changes nothing, and all that remain are attacked -/
theorem z_rem17 (hn : n ≤ 8) (hA : ∀ j, j < n → x_mo_attackers al n j = att j) : ∀ r k c b, k + r = n → x_cy_remain_17 att r k c = (x_mo_hasCycle_22 al n r k c b).1 := by
  intro r
  induction r with
  | zero =>
    intro k c b _
    rfl
  | succ r ih =>
    intro k c b hk
    simp only [x_cy_remain_17, x_mo_hasCycle_22]
    rw [hA k (by omega)]
    by_cases e0 : (c >>> (nI k &&& 31)) &&& 1 = 0
    · rw [if_pos e0]
      have b0 := (z_bit0 _ (by omega)).mp e0
      have same : c &&& (((1 : Int32) <<< ((nI k) &&& 31)) ^^^ (-1 : Int32)) = c := z_bi_ext fun j hj => by
        rw [z_bi_clr (by omega) hj]
        by_cases e : j = k
        · subst e
          rw [b0]
          rfl
        · rw [decide_eq_false e]
          simp
      rw [same]
      split <;> exact ih _ _ _ (by omega)
    · rw [if_neg e0]
      split
      · exact ih _ _ _ (by omega)
      · exact ih _ _ _ (by omega)
theorem z_fix22 (hn : n ≤ 8) (hA : ∀ j, j < n → x_mo_attackers al n j = att j) : ∀ r k c, k + r = n → (x_mo_hasCycle_22 al n r k c false).2 = false → (x_mo_hasCycle_22 al n r k c false).1 = c ∧ ∀ j, k ≤ j → j < n → z_bi c j = true → ¬ att j &&& c = 0 := by
  have ht : ∀ r k c, (x_mo_hasCycle_22 al n r k c true).2 = true := by
    intro r
    induction r with
    | zero =>
      intro k c
      rfl
    | succ r ih =>
      intro k c
      simp only [x_mo_hasCycle_22]
      split
      · exact ih _ _
      · split
        · exact ih _ _
        · exact ih _ _
  intro r
  induction r with
  | zero =>
    intro k c hk _
    exact ⟨rfl, fun j h1 h2 => by omega⟩
  | succ r ih =>
    intro k c hk h
    simp only [x_mo_hasCycle_22] at h ⊢
    rw [hA k (by omega)] at h ⊢
    by_cases e0 : (c >>> (nI k &&& 31)) &&& 1 = 0
    · rw [if_pos e0] at h ⊢
      have b0 := (z_bit0 _ (by omega)).mp e0
      obtain ⟨a, b⟩ := ih _ _ (by omega) h
      refine ⟨a, fun j h1 h2 h3 => ?_⟩
      by_cases e : j = k
      · subst e
        rw [b0] at h3
        cases h3
      · exact b j (by omega) h2 h3
    · rw [if_neg e0] at h ⊢
      by_cases e1 : att k &&& c = 0
      · rw [if_pos e1, ht] at h
        cases h
      · rw [if_neg e1] at h ⊢
        obtain ⟨a, b⟩ := ih _ _ (by omega) h
        refine ⟨a, fun j h1 h2 h3 => ?_⟩
        by_cases e : j = k
        · subst e
          exact e1
        · exact b j (by omega) h2 h3
theorem z_rem7 (hn : n ≤ 8) (hA : ∀ j, j < n → x_mo_attackers al n j = att j) : ∀ m r r' k c, z_cn c n ≤ m → m ≤ r → m + 1 ≤ r' → x_cy_remain_7 n att r k c = x_hc_14 al n r' c ∧ ∀ j, j < n → z_bi (x_hc_14 al n r' c) j = true → ¬ att j &&& (x_hc_14 al n r' c) = 0 := by
  have hfix : ∀ c, (x_mo_hasCycle_22 al n n 0 c false).2 = false → ∀ r k, x_cy_remain_7 n att r k c = c := by
    intro c h r
    induction r with
    | zero =>
      intro k
      rfl
    | succ r ih =>
      intro k
      show x_cy_remain_7 n att r (k + 1) (x_cy_remain_17 att n 0 c) = c
      rw [z_rem17 hn hA n 0 c false (by omega), (z_fix22 hn hA n 0 c (by omega) h).1]
      exact ih (k + 1)
  intro m
  induction m using Nat.strongRecOn with
  | _ m ih =>
    intro r r' k c hm hr hr'
    obtain ⟨r0', rfl⟩ : ∃ r0', r' = r0' + 1 := ⟨r' - 1, by omega⟩
    have eL : x_hc_14 al n (r0' + 1) c = (if (x_mo_hasCycle_22 al n n 0 c false).2 then x_hc_14 al n r0' (x_mo_hasCycle_22 al n n 0 c false).1 else (x_mo_hasCycle_22 al n n 0 c false).1) := rfl
    rw [eL]
    cases e : (x_mo_hasCycle_22 al n n 0 c false).2 with
    | false =>
      rw [if_neg Bool.false_ne_true]
      obtain ⟨f1, f2⟩ := z_fix22 hn hA n 0 c (by omega) e
      rw [f1]
      exact ⟨hfix c e r k, fun j hj q => f2 j (Nat.zero_le j) hj q⟩
    | true =>
      rw [if_pos rfl]
      have hlt := z_hc_more (al := al) hn c e
      obtain ⟨r1, rfl⟩ : ∃ r1, r = r1 + 1 := ⟨r - 1, by omega⟩
      have u : x_cy_remain_7 n att (r1 + 1) k c = x_cy_remain_7 n att r1 (k + 1) (x_cy_remain_17 att n 0 c) := rfl
      rw [u, z_rem17 hn hA n 0 c false (by omega)]
      exact ih (m - 1) (by omega) r1 r0' (k + 1) _ (by omega) (by omega) (by omega)
/-- what was taken away, and when -/
def z_cyI (n : Nat) (att : Nat → Int32) (T : Nat) (c : Int32) : Prop := ∃ rk : Nat → Nat, ∀ k, k < n → z_bi c k = false → rk k < T ∧ ∀ a, a < 32 → z_bi (att k) a = true → a < n ∧ z_bi c a = false ∧ rk a < rk k
theorem z_cyI17 (hn : n ≤ 8) (hb : ∀ j, j < n → z_sub n 0 (att j)) : ∀ r k c T, k + r = n → z_cyI n att T c → ∃ T', z_cyI n att T' (x_cy_remain_17 att r k c) := by
  intro r
  induction r with
  | zero =>
    intro k c T _ h
    exact ⟨T, h⟩
  | succ r ih =>
    intro k c T hk h
    simp only [x_cy_remain_17]
    by_cases e : att k &&& c = 0
    · rw [if_pos e]
      by_cases e2 : z_bi c k = true
      · refine ih _ _ (T + 1) (by omega) ?_
        obtain ⟨rk, h⟩ := h
        refine ⟨fun j => if j = k then T else rk j, fun j hj q => ?_⟩
        rw [z_bi_clr (by omega) (by omega)] at q
        by_cases ej : j = k
        · subst ej
          dsimp only
          rw [if_pos rfl]
          refine ⟨by omega, fun a ha qa => ?_⟩
          have ca := z_and0' e qa
          have han := (hb j hj a ha qa).1
          have hne : a ≠ j := fun c => by
            subst c
            rw [e2] at ca
            cases ca
          rw [if_neg hne, z_bi_clr (by omega) ha, ca]
          exact ⟨han, rfl, (h a han ca).1⟩
        · dsimp only
          rw [if_neg ej]
          rw [decide_eq_false ej, Bool.not_false, Bool.and_true] at q
          obtain ⟨g1, g2⟩ := h j hj q
          refine ⟨by omega, fun a ha qa => ?_⟩
          obtain ⟨f1, f2, f3⟩ := g2 a ha qa
          have hne : a ≠ k := fun c => by
            subst c
            rw [e2] at f2
            cases f2
          rw [if_neg hne, z_bi_clr (by omega) ha, f2]
          exact ⟨f1, rfl, f3⟩
      · have e3 : z_bi c k = false := by simpa using e2
        have same : c &&& (((1 : Int32) <<< ((nI k) &&& 31)) ^^^ (-1 : Int32)) = c := z_bi_ext fun j hj => by
          rw [z_bi_clr (by omega) hj]
          by_cases e : j = k
          · subst e
            rw [e3]
            rfl
          · rw [decide_eq_false e]
            simp
        rw [same]
        exact ih _ _ T (by omega) h
    · rw [if_neg e]
      exact ih _ _ T (by omega) h
theorem z_cyI7 (hn : n ≤ 8) (hb : ∀ j, j < n → z_sub n 0 (att j)) : ∀ r k c T, z_cyI n att T c → ∃ T', z_cyI n att T' (x_cy_remain_7 n att r k c) := by
  intro r
  induction r with
  | zero =>
    intro k c T h
    exact ⟨T, h⟩
  | succ r ih =>
    intro k c T h
    obtain ⟨T1, h1⟩ := z_cyI17 hn hb n 0 c T (by omega) h
    exact ih (k + 1) _ T1 h1
theorem z_mp21 {f : Nat → Int32} {j : Nat} {xp : Int32} {P : Nat → Int32 → Bool} : ∀ r k, k + r = 8 → (x_cy_meetsPath_21 f j xp P r k = .inl () ∧ ∀ i, k ≤ i → i < 8 → z_bi (f j) i = true → P i (xp ||| ((1 : Int32) <<< ((nI j) &&& 31))) = false) ∨ (x_cy_meetsPath_21 f j xp P r k = .inr true ∧ ∃ i, i < 8 ∧ z_bi (f j) i = true ∧ P i (xp ||| ((1 : Int32) <<< ((nI j) &&& 31))) = true) := by
  intro r
  induction r with
  | zero =>
    intro k hk
    exact Or.inl ⟨rfl, fun i h1 h2 => by omega⟩
  | succ r ih =>
    intro k hk
    simp only [x_cy_meetsPath_21]
    rw [z_has_bt _ (by omega)]
    have more : (z_bi (f j) k = true → P k (xp ||| ((1 : Int32) <<< ((nI j) &&& 31))) = false) → (x_cy_meetsPath_21 f j xp P r (k + 1) = .inl () ∧ ∀ i, k ≤ i → i < 8 → z_bi (f j) i = true → P i (xp ||| ((1 : Int32) <<< ((nI j) &&& 31))) = false) ∨ (x_cy_meetsPath_21 f j xp P r (k + 1) = .inr true ∧ ∃ i, i < 8 ∧ z_bi (f j) i = true ∧ P i (xp ||| ((1 : Int32) <<< ((nI j) &&& 31))) = true) := by
      intro h0
      rcases ih (k + 1) (by omega) with ⟨a, b⟩ | z
      · refine Or.inl ⟨a, fun i h1 h2 h3 => ?_⟩
        by_cases e : i = k
        · subst e
          exact h0 h3
        · exact b i (by omega) h2 h3
      · exact Or.inr z
    by_cases e : z_bi (f j) k = true
    · rw [if_pos e]
      cases q : P k (xp ||| ((1 : Int32) <<< ((nI j) &&& 31))) with
      | true =>
        rw [if_pos rfl]
        exact Or.inr ⟨rfl, k, by omega, e, q⟩
      | false =>
        rw [if_neg Bool.false_ne_true]
        exact more (fun _ => q)
    · rw [if_neg e]
      exact more (fun c => absurd c e)
theorem z_mpF (hn : n ≤ 8) {rk : Nat → Nat} (h : ∀ k, k < n → ∀ a, a < 32 → z_bi (att k) a = true → a < n ∧ rk a < rk k) : ∀ r j xp, j < n → (∀ p, p < 32 → z_bi xp p = true → rk j < rk p) → x_mp att r j xp = false := by
  have main : ∀ (P : Nat → Int32 → Bool) dp j xp, j < n → (∀ p, p < 32 → z_bi xp p = true → rk j < rk p) → (∀ i, i < n → rk i < rk j → P i (xp ||| ((1 : Int32) <<< ((nI j) &&& 31))) = false) → x_cy_meetsPath att j xp dp P = false := by
    intro P dp j xp hj hp hP
    unfold x_cy_meetsPath
    rw [z_has_bt _ (by omega)]
    by_cases e : z_bi xp j = true
    · exact absurd (hp j (by omega) e) (Nat.lt_irrefl _)
    · rw [if_neg e]
      split
      · rcases z_mp21 (f := att) (j := j) (xp := xp) (P := P) 8 0 (by omega) with ⟨a, -⟩ | ⟨a, i, h1, h2, h3⟩
        · rw [a]
        · obtain ⟨g1, g2⟩ := h j hj i (by omega) h2
          rw [hP i g1 g2] at h3
          cases h3
      · rfl
  intro r
  induction r with
  | zero =>
    intro j xp hj hp
    exact main _ _ j xp hj hp (fun _ _ _ => rfl)
  | succ r ih =>
    intro j xp hj hp
    refine main _ _ j xp hj hp (fun i hi hr => ih i _ hi (fun p hp32 q => ?_))
    rw [z_bi_or, z_bi_shl (by omega) hp32, Bool.or_eq_true, decide_eq_true_eq] at q
    rcases q with q | q
    · have := hp p hp32 q
      omega
    · subst q
      exact hr
theorem z_cnBit {xp : Int32} {j : Nat} (hj : j < 8) (h : z_bi xp j = false) : z_cn xp 8 < z_cn (xp ||| ((1 : Int32) <<< ((nI j) &&& 31))) 8 := by
  refine z_cn_lt 8 (fun i _ q => by rw [z_bi_or, q]; rfl) ⟨j, hj, h, ?_⟩
  rw [z_bi_or, z_bi_shl (by omega) (by omega), decide_eq_true rfl, Bool.or_true]
theorem z_mpT (hn : n ≤ 8) {c : Int32} (h : ∀ k, k < n → z_bi c k = true → ∃ a, a < n ∧ z_bi (att k) a = true ∧ z_bi c a = true) : ∀ r j xp, j < n → z_bi c j = true → 8 ≤ z_cn xp 8 + r → r ≤ 8 → x_mp att r j xp = true := by
  intro r
  induction r with
  | zero =>
    intro j xp hj hc hr _
    show x_cy_meetsPath att j xp 8 (fun _ _ => false) = true
    unfold x_cy_meetsPath
    rw [z_has_bt _ (by omega)]
    cases e : z_bi xp j with
    | true => rfl
    | false =>
      have h1 := z_cnBit (by omega : j < 8) e
      have h2 := z_cn_le (xp ||| ((1 : Int32) <<< ((nI j) &&& 31))) 8
      omega
  | succ r ih =>
    intro j xp hj hc hr hr8
    show x_cy_meetsPath att j xp (7 - r) (x_mp att r) = true
    unfold x_cy_meetsPath
    rw [z_has_bt _ (by omega)]
    cases e : z_bi xp j with
    | true => rfl
    | false =>
      rw [if_neg Bool.false_ne_true, if_pos (by omega)]
      have h1 := z_cnBit (by omega : j < 8) e
      rcases z_mp21 (f := att) (j := j) (xp := xp) (P := x_mp att r) 8 0 (by omega) with ⟨a, b⟩ | ⟨a, -⟩
      · obtain ⟨i, i1, i2, i3⟩ := h j hj hc
        have g := ih i (xp ||| ((1 : Int32) <<< ((nI j) &&& 31))) i1 i3 (by omega) (by omega)
        rw [b i (Nat.zero_le i) (by omega) i2] at g
        cases g
      · rw [a]
theorem z_found2 : ∀ r k, (x_cy_areFound_2 att r k = .inl () ∧ ∀ i, k ≤ i → i < k + r → x_mp att 8 i 0 = false) ∨ (x_cy_areFound_2 att r k = .inr true ∧ ∃ i, k ≤ i ∧ i < k + r ∧ x_mp att 8 i 0 = true) := by
  intro r
  induction r with
  | zero =>
    intro k
    exact Or.inl ⟨rfl, fun i h1 h2 => by omega⟩
  | succ r ih =>
    intro k
    simp only [x_cy_areFound_2]
    cases e : x_mp att 8 k 0 with
    | true =>
      rw [if_pos rfl]
      exact Or.inr ⟨rfl, k, by omega, by omega, e⟩
    | false =>
      rw [if_neg Bool.false_ne_true]
      rcases ih (k + 1) with ⟨a, b⟩ | ⟨a, i, h1, h2, h3⟩
      · refine Or.inl ⟨a, fun i h1 h2 => ?_⟩
        by_cases q : i = k
        · subst q
          exact e
        · exact b i (by omega) (by omega)
      · exact Or.inr ⟨a, i, by omega, by omega, h3⟩
theorem z_cyc (hn : n ≤ 8) (hA : ∀ j, j < n → x_mo_attackers al n j = att j) (hb : ∀ j, j < n → z_sub n 0 (att j)) : x_cy_remain n att = (x_mo_hasCycle al n).1 ∧ x_cy_areFound n att = (x_mo_hasCycle al n).1 := by
  have hle := z_cn_le (nI (2 ^ n - 1)) n
  obtain ⟨e1, e2⟩ := z_rem7 hn hA n n (n + 1) 0 (nI (2 ^ n - 1)) hle (Nat.le_refl n) (by omega)
  have eR : x_cy_remain n att = if x_hc_14 al n (n + 1) (nI (2 ^ n - 1)) = 0 then false else true := by
    rw [← e1]
    rfl
  have eM : (x_mo_hasCycle al n).1 = if x_hc_14 al n (n + 1) (nI (2 ^ n - 1)) = 0 then false else true := by
    show (if x_hc_14 al n (n + 1) (nI (2 ^ n - 1)) = 0 then ((false, 0) : Bool × Int32) else (true, 0)).1 = _
    split <;> rfl
  obtain ⟨T, rk, hI⟩ := z_cyI7 (att := att) hn hb n 0 (nI (2 ^ n - 1)) 0 ⟨fun _ => 0, fun k hk q => by rw [z_allb n (by omega) k (by omega), decide_eq_true hk] at q; cases q⟩
  rw [e1] at hI
  have hsub : z_sub n 0 (x_hc_14 al n (n + 1) (nI (2 ^ n - 1))) := by
    have mono : ∀ r' c, (∀ j, j < 32 → z_bi (x_hc_14 al n r' c) j = true → z_bi c j = true) := by
      intro r'
      induction r' with
      | zero =>
        intro c j _ q
        exact q
      | succ r' ih =>
        intro c j hj q
        have eL : x_hc_14 al n (r' + 1) c = (if (x_mo_hasCycle_22 al n n 0 c false).2 then x_hc_14 al n r' (x_mo_hasCycle_22 al n n 0 c false).1 else (x_mo_hasCycle_22 al n n 0 c false).1) := rfl
        rw [eL] at q
        have h22 := (z_hc22 (al := al) hn n 0 c false (by omega)).1 j hj
        split at q
        · exact h22 (ih _ j hj q)
        · exact h22 q
    intro j hj q
    have := mono _ _ j hj q
    rw [z_allb n (by omega) j hj, decide_eq_true_eq] at this
    exact ⟨this, z_bi_0 j⟩
  refine ⟨by rw [eR, eM], ?_⟩
  rw [eM]
  generalize x_hc_14 al n (n + 1) (nI (2 ^ n - 1)) = c at e2 hI hsub
  unfold x_cy_areFound
  by_cases e0 : c = 0
  · rw [if_pos e0]
    subst e0
    rcases z_found2 (att := att) n 0 with ⟨a, -⟩ | ⟨a, i, h1, h2, h3⟩
    · rw [a]
    · rw [z_mpF (att := att) hn (rk := rk) (fun k hk a ha q => by
        obtain ⟨g1, -, g3⟩ := (hI k hk (z_bi_0 k)).2 a ha q
        exact ⟨g1, g3⟩) 8 i 0 (by omega) (fun p _ q => by rw [z_bi_0] at q; cases q)] at h3
      cases h3
  · rw [if_neg e0]
    rcases z_found2 (att := att) n 0 with ⟨-, b⟩ | ⟨a, -⟩
    · obtain ⟨j, hj, qj⟩ := z_ne0 e0
      have hjn := (hsub j hj qj).1
      have g := z_mpT (att := att) hn (c := c) (fun k hk q => by
        obtain ⟨a, ha, a1, a2⟩ := z_andne (e2 k hk q)
        exact ⟨a, (hb k hk a ha a1).1, a1, a2⟩) 8 j 0 hjn qj (by omega) (by omega)
      rw [b j (Nat.zero_le j) (by omega)] at g
      cases g
    · rw [a]
end CYC
