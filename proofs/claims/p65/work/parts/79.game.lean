/-- an accepted argument that may be moved behind those of m -/
def z_gd (ac : Int32) (rk : Nat → Nat) (j m : Nat) : Prop := z_bi ac j = true ∧ ∀ i, i < 8 → z_bi (nI m) i = true → z_bi ac i = true → rk j ≤ rk i
/-- what the game keeps in mind holds -/
def z_mem (ac : Int32) (rk : Nat → Nat) (won lost : Nat → Int32) : Prop :=
  (∀ m j, m < 256 → j < 8 → z_has (won m) j = true → z_bi ac j = true) ∧ ∀ m j, m < 256 → j < 8 → z_has (lost m) j = true → ¬ z_gd ac rk j m
theorem z_cnadd : ∀ m, m < 256 → ∀ b, b < 8 → z_bi (nI m) b = false → z_cn (nI (m ||| 2 ^ b)) 8 = z_cn (nI m) 8 + 1 := by decide +kernel
theorem z_cnfull : ∀ m, m < 256 → ∀ b, b < 8 → z_bi (nI m) b = false → z_cn (nI m) 8 < 8 := by decide +kernel
theorem z_bior2 : ∀ b, b < 8 → ∀ i, i < 8 → z_bi (nI (2 ^ b)) i = decide (i = b) := by decide +kernel
theorem z_bimb {m b i : Nat} (hb : b < 8) (hi : i < 8) : z_bi (nI (m ||| 2 ^ b)) i = (z_bi (nI m) i || decide (i = b)) := by
  rw [← nI_or, z_bi_or, z_bior2 b hb i hi]
theorem z_attlt {B : Nat} {s : ZS} (W : z_wfB B s) {j b : Nat} (hj : j < s.1) (hb : b < 32) (h : z_bi (s.2.2.2.2.2.1 j) b = true) : b < s.1 := by
  obtain ⟨m, hm, e⟩ := W.att hj
  rw [e] at h
  have h8 := W.1
  have hp : (2 : Nat) ^ s.1 ≤ 256 := Nat.pow_le_pow_right (n := 2) (by omega) h8
  have h2 : m.testBit b = true := by
    have e3 : z_bi (nI m) b = (BitVec.ofNat 32 m).getLsbD b := rfl
    rw [e3, BitVec.getLsbD_ofNat] at h
    simp only [Bool.and_eq_true, decide_eq_true_eq] at h
    exact h.2
  refine Classical.byContradiction fun c => ?_
  have : m < 2 ^ b := Nat.lt_of_lt_of_le hm (Nat.pow_le_pow_right (by omega) (by omega))
  rw [Nat.testBit_lt_two_pow this] at h2
  cases h2
section GAME
variable {n : Nat} {f : Nat → Int32} {ac : Int32} {rk : Nat → Nat}
def z_HS (n : Nat) (ac : Int32) (rk : Nat → Nat) (m : Nat) (H : Nat → Nat → (Nat → Int32) → (Nat → Int32) → Bool × (Nat → Int32) × (Nat → Int32)) : Prop :=
  ∀ b won lost, b < n → z_bi (nI m) b = false → z_mem ac rk won lost → z_mem ac rk (H b (m ||| 2 ^ b) won lost).2.1 (H b (m ||| 2 ^ b) won lost).2.2 ∧ ((H b (m ||| 2 ^ b) won lost).1 = true → z_bi ac b = true) ∧ ((H b (m ||| 2 ^ b) won lost).1 = false → ¬ z_gd ac rk b (m ||| 2 ^ b))
theorem z_ans12 {m a : Nat} {H : Nat → Nat → (Nat → Int32) → (Nat → Int32) → Bool × (Nat → Int32) × (Nat → Int32)} (hH : z_HS n ac rk m H) (hf : ∀ b, b < 32 → z_bi (f a) b = true → b < n) : ∀ r k lost won, k + r = 8 → z_mem ac rk won lost →
    (∃ l w, x_ga_isAnswered_12 f a m H r k lost won = .inl (l, w) ∧ z_mem ac rk w l ∧ ∀ b, k ≤ b → b < 8 → z_bi (f a) b = true → z_bi (nI m) b = false → ¬ z_gd ac rk b (m ||| 2 ^ b)) ∨
    (∃ w l, x_ga_isAnswered_12 f a m H r k lost won = .inr (true, w, l) ∧ z_mem ac rk w l ∧ ∃ b, b < 32 ∧ z_bi (f a) b = true ∧ z_bi ac b = true) := by
  intro r
  induction r with
  | zero =>
    intro k lost won hk hm
    exact Or.inl ⟨lost, won, rfl, hm, fun b h1 h2 => by omega⟩
  | succ r ih =>
    intro k lost won hk hm
    have u : x_ga_isAnswered_12 f a m H (r + 1) k lost won = (if z_has ((f a) &&& ((nI m) ^^^ (-1 : Int32))) k then (match H k (m ||| (2 ^ k)) won lost with | (v1, y1_won, y1_lost) => (if v1 then .inr (true, y1_won, y1_lost) else x_ga_isAnswered_12 f a m H r (k + 1) y1_lost y1_won)) else x_ga_isAnswered_12 f a m H r (k + 1) lost won) := rfl
    rw [u, z_has_bt _ (by omega), z_bi_and, z_bi_not _ (by omega)]
    by_cases q : (z_bi (f a) k && !z_bi (nI m) k) = true
    · rw [if_pos q]
      rw [Bool.and_eq_true] at q
      obtain ⟨q1, q2⟩ := q
      have q2 : z_bi (nI m) k = false := by simpa using q2
      have hs := hH k won lost (hf k (by omega) q1) q2 hm
      generalize H k (m ||| 2 ^ k) won lost = res at hs
      obtain ⟨v, w, l⟩ := res
      obtain ⟨s1, s2, s3⟩ := hs
      dsimp only at s1 s2 s3 ⊢
      cases v with
      | true =>
        rw [if_pos rfl]
        exact Or.inr ⟨w, l, rfl, s1, k, by omega, q1, s2 rfl⟩
      | false =>
        rw [if_neg Bool.false_ne_true]
        rcases ih (k + 1) l w (by omega) s1 with ⟨l2, w2, e, m2, g⟩ | z
        · refine Or.inl ⟨l2, w2, e, m2, fun b h1 h2 h3 h4 => ?_⟩
          by_cases eb : b = k
          · subst eb
            exact s3 rfl
          · exact g b (by omega) h2 h3 h4
        · exact Or.inr z
    · rw [if_neg q]
      rcases ih (k + 1) lost won (by omega) hm with ⟨l2, w2, e, m2, g⟩ | z
      · refine Or.inl ⟨l2, w2, e, m2, fun b h1 h2 h3 h4 => ?_⟩
        by_cases eb : b = k
        · subst eb
          rw [h3, h4] at q
          exact absurd rfl q
        · exact g b (by omega) h2 h3 h4
      · exact Or.inr z
def z_AS (n : Nat) (f : Nat → Int32) (ac : Int32) (rk : Nat → Nat) (m : Nat) (A : Nat → Nat → (Nat → Int32) → (Nat → Int32) → Bool × (Nat → Int32) × (Nat → Int32)) : Prop :=
  ∀ a won lost, a < n → z_mem ac rk won lost → z_mem ac rk (A a m won lost).2.1 (A a m won lost).2.2 ∧ ((A a m won lost).1 = true → ∃ b, b < 32 ∧ z_bi (f a) b = true ∧ z_bi ac b = true) ∧ ((A a m won lost).1 = false → ∀ b, b < 8 → z_bi (f a) b = true → z_bi (nI m) b = false → ¬ z_gd ac rk b (m ||| 2 ^ b))
theorem z_ans {m : Nat} {H : Nat → Nat → (Nat → Int32) → (Nat → Int32) → Bool × (Nat → Int32) × (Nat → Int32)} (hH : z_HS n ac rk m H) (hf : ∀ a, a < n → ∀ b, b < 32 → z_bi (f a) b = true → b < n) : z_AS n f ac rk m (fun j m won lost => x_ga_isAnswered won lost f j m H) := by
  intro a won lost ha hm
  dsimp only
  unfold x_ga_isAnswered
  rcases z_ans12 hH (hf a ha) 8 0 lost won (by omega) hm with ⟨l, w, e, m2, g⟩ | ⟨w, l, e, m2, g⟩
  · rw [e]
    exact ⟨m2, fun c => (by cases c), fun _ b h2 h3 h4 => g b (Nat.zero_le b) h2 h3 h4⟩
  · rw [e]
    exact ⟨m2, fun _ => g, fun c => (by cases c)⟩
theorem z_hold40 {m j : Nat} {A : Nat → Nat → (Nat → Int32) → (Nat → Int32) → Bool × (Nat → Int32) × (Nat → Int32)} (hA : z_AS n f ac rk m A) (hj : j < 8) (hm8 : m < 256) (hf : ∀ b, b < 32 → z_bi (f j) b = true → b < n)
    (hno : ∀ a, a < n → z_bi (f j) a = true → (∀ b, b < 8 → z_bi (f a) b = true → z_bi (nI m) b = false → ¬ z_gd ac rk b (m ||| 2 ^ b)) → ¬ z_gd ac rk j m) : ∀ r k lost won, k + r = 8 → z_mem ac rk won lost →
    (∃ l w, x_ga_holds_40 f j m A r k lost won = .inl (l, w) ∧ z_mem ac rk w l ∧ ∀ a, k ≤ a → a < 8 → z_bi (f j) a = true → ∃ b, b < 32 ∧ z_bi (f a) b = true ∧ z_bi ac b = true) ∨
    (∃ w l, x_ga_holds_40 f j m A r k lost won = .inr (false, w, l) ∧ z_mem ac rk w l ∧ ¬ z_gd ac rk j m) := by
  intro r
  induction r with
  | zero =>
    intro k lost won hk hm
    exact Or.inl ⟨lost, won, rfl, hm, fun b h1 h2 => by omega⟩
  | succ r ih =>
    intro k lost won hk hm
    have u : x_ga_holds_40 f j m A (r + 1) k lost won = (if z_has (f j) k then (match A k m won lost with | (v1, y1_won, y1_lost) => (if v1 then x_ga_holds_40 f j m A r (k + 1) y1_lost y1_won else .inr (false, y1_won, upd y1_lost m ((y1_lost m) ||| ((1 : Int32) <<< ((nI j) &&& 31)))))) else x_ga_holds_40 f j m A r (k + 1) lost won) := rfl
    rw [u, z_has_bt _ (by omega)]
    by_cases q : z_bi (f j) k = true
    · rw [if_pos q]
      have hs := hA k won lost (hf k (by omega) q) hm
      generalize A k m won lost = res at hs
      obtain ⟨v, w, l⟩ := res
      obtain ⟨s1, s2, s3⟩ := hs
      dsimp only at s1 s2 s3 ⊢
      cases v with
      | true =>
        rw [if_pos rfl]
        rcases ih (k + 1) l w (by omega) s1 with ⟨l2, w2, e, m2, g⟩ | z
        · refine Or.inl ⟨l2, w2, e, m2, fun b h1 h2 h3 => ?_⟩
          by_cases eb : b = k
          · subst eb
            exact s2 rfl
          · exact g b (by omega) h2 h3
        · exact Or.inr z
      | false =>
        rw [if_neg Bool.false_ne_true]
        have hn := hno k (hf k (by omega) q) q (s3 rfl)
        refine Or.inr ⟨w, _, rfl, ⟨s1.1, fun m' j' hm' hj' hh => ?_⟩, hn⟩
        by_cases em : m' = m
        · subst em
          rw [upd_eq, z_has_bt _ (by omega), z_bi_or, z_bi_shl (by omega) (by omega), Bool.or_eq_true, decide_eq_true_eq] at hh
          rcases hh with hh | hh
          · exact s1.2 m' j' hm' hj' (by rw [z_has_bt _ (by omega)]; exact hh)
          · subst hh
            exact hn
        · rw [upd_ne em] at hh
          exact s1.2 m' j' hm' hj' hh
    · rw [if_neg q]
      rcases ih (k + 1) lost won (by omega) hm with ⟨l2, w2, e, m2, g⟩ | z
      · refine Or.inl ⟨l2, w2, e, m2, fun b h1 h2 h3 => ?_⟩
        by_cases eb : b = k
        · subst eb
          exact absurd h3 q
        · exact g b (by omega) h2 h3
      · exact Or.inr z
theorem z_holdA {r j m : Nat} {won lost : Nat → Int32} (hn : n ≤ 8) (hf : ∀ a, a < n → ∀ b, b < 32 → z_bi (f a) b = true → b < n)
    (hno : ∀ j m, j < n → m < 256 → ∀ a, a < n → z_bi (f j) a = true → (∀ b, b < 8 → z_bi (f a) b = true → z_bi (nI m) b = false → ¬ z_gd ac rk b (m ||| 2 ^ b)) → ¬ z_gd ac rk j m)
    (hall : ∀ j, j < n → (∀ a, a < 8 → z_bi (f j) a = true → ∃ b, b < 32 ∧ z_bi (f a) b = true ∧ z_bi ac b = true) → z_bi ac j = true)
    (hj : j < n) (hm : m < 256) (hc : z_cn (nI m) 8 + r = 8) (hmem : z_mem ac rk won lost) (hH : z_HS n ac rk m (x_hold f r)) : z_mem ac rk (x_hold f (r + 1) j m won lost).2.1 (x_hold f (r + 1) j m won lost).2.2 ∧ ((x_hold f (r + 1) j m won lost).1 = true → z_bi ac j = true) ∧ ((x_hold f (r + 1) j m won lost).1 = false → ¬ z_gd ac rk j m) := by
  have u : x_hold f (r + 1) j m won lost = x_ga_holds won lost f j m (8 - r) (fun j m won lost => x_ga_isAnswered won lost f j m (x_hold f r)) := rfl
  rw [u]
  unfold x_ga_holds
  rw [if_neg (by omega)]
  by_cases q1 : z_has (lost m) j = true
  · rw [if_pos q1]
    exact ⟨hmem, fun c => (by cases c), fun _ => hmem.2 m j hm (by omega) q1⟩
  · rw [if_neg q1]
    by_cases q2 : z_has (won m) j = true
    · rw [if_pos q2]
      exact ⟨hmem, fun _ => hmem.1 m j hm (by omega) q2, fun c => (by cases c)⟩
    · rw [if_neg q2]
      rcases z_hold40 (z_ans hH hf) (by omega : j < 8) hm (hf j hj) (hno j m hj hm) 8 0 lost won (by omega) hmem with ⟨l, w, e, m2, g⟩ | ⟨w, l, e, m2, g⟩
      · rw [e]
        have ha := hall j hj (fun a h1 h2 => g a (Nat.zero_le a) h1 h2)
        refine ⟨⟨fun m' j' hm' hj' hh => ?_, m2.2⟩, fun _ => ha, fun c => (by cases c)⟩
        dsimp only at hh
        by_cases em : m' = m
        · subst em
          rw [upd_eq, z_has_bt _ (by omega), z_bi_or, z_bi_shl (by omega) (by omega), Bool.or_eq_true, decide_eq_true_eq] at hh
          rcases hh with hh | hh
          · exact m2.1 m' j' hm' hj' (by rw [z_has_bt _ (by omega)]; exact hh)
          · subst hh
            exact ha
        · rw [upd_ne em] at hh
          exact m2.1 m' j' hm' hj' hh
      · rw [e]
        exact ⟨m2, fun c => (by cases c), fun _ => g⟩
theorem z_hold {rj : Int32} (hn : n ≤ 8) (hf : ∀ a, a < n → ∀ b, b < 32 → z_bi (f a) b = true → b < n) (h1 : ∀ j, j < 32 → z_bi ac j = true → j < n ∧ z_bi rj j = false) {rr : Nat → Nat}
    (h3 : ∀ j, j < n → z_bi ac j = true → ∀ a, a < 32 → z_bi (f j) a = true → z_bi rj a = true ∧ rr a < rk j) (h4 : ∀ j, j < n → z_bi rj j = true → ∃ b, b < 32 ∧ z_bi (f j) b = true ∧ z_bi ac b = true ∧ rk b ≤ rr j)
    (h5 : ∀ j, j < n → z_bi ac j = false → z_bi rj j = false → (∃ a, a < 32 ∧ z_bi (f j) a = true ∧ z_bi rj a = false) ∧ ∀ a, a < 32 → z_bi (f j) a = true → z_bi ac a = false) :
    ∀ r j m won lost, j < n → m < 256 → z_cn (nI m) 8 + r = 8 → z_mem ac rk won lost → z_mem ac rk (x_hold f (r + 1) j m won lost).2.1 (x_hold f (r + 1) j m won lost).2.2 ∧ ((x_hold f (r + 1) j m won lost).1 = true → z_bi ac j = true) ∧ ((x_hold f (r + 1) j m won lost).1 = false → ¬ z_gd ac rk j m) := by
  -- an attacker that no accepted argument answers
  have hno : ∀ j m, j < n → m < 256 → ∀ a, a < n → z_bi (f j) a = true → (∀ b, b < 8 → z_bi (f a) b = true → z_bi (nI m) b = false → ¬ z_gd ac rk b (m ||| 2 ^ b)) → ¬ z_gd ac rk j m := by
    intro j m hj hm a ha qa hb hg
    obtain ⟨g1, g2⟩ := hg
    obtain ⟨ra, rl⟩ := h3 j hj g1 a (by omega) qa
    obtain ⟨b, hb32, b1, b2, b3⟩ := h4 a ha ra
    have hbn := (h1 b hb32 b2).1
    have nb : z_bi (nI m) b = false := by
      cases e : z_bi (nI m) b with
      | false => rfl
      | true =>
        have := g2 b (by omega) e b2
        omega
    refine hb b (by omega) b1 nb ⟨b2, fun i hi q1 q2 => ?_⟩
    rw [z_bimb (by omega) hi, Bool.or_eq_true, decide_eq_true_eq] at q1
    rcases q1 with q1 | q1
    · have := g2 i hi q1 q2
      omega
    · subst q1
      exact Nat.le_refl _
  -- all attackers answered
  have hall : ∀ j, j < n → (∀ a, a < 8 → z_bi (f j) a = true → ∃ b, b < 32 ∧ z_bi (f a) b = true ∧ z_bi ac b = true) → z_bi ac j = true := by
    intro j hj hA
    have hrej : ∀ a, a < 32 → z_bi (f j) a = true → z_bi rj a = true := by
      intro a ha qa
      have han := hf j hj a ha qa
      obtain ⟨b, hb, b1, b2⟩ := hA a (by omega) qa
      cases e : z_bi rj a with
      | true => rfl
      | false =>
        cases e2 : z_bi ac a with
        | true =>
          have := (h3 a han e2 b hb b1).1
          rw [(h1 b hb b2).2] at this
          cases this
        | false =>
          have := (h5 a han e2 e).2 b hb b1
          rw [b2] at this
          cases this
    cases e : z_bi ac j with
    | true => rfl
    | false =>
      cases e2 : z_bi rj j with
      | true =>
        obtain ⟨b, hb, b1, b2, -⟩ := h4 j hj e2
        have := hrej b hb b1
        rw [(h1 b hb b2).2] at this
        cases this
      | false =>
        obtain ⟨⟨a, ha, a1, a2⟩, -⟩ := h5 j hj e e2
        rw [hrej a ha a1] at a2
        cases a2
  intro r
  induction r with
  | zero =>
    intro j m won lost hj hm hc hmem
    refine z_holdA (r := 0) hn hf hno hall hj hm hc hmem (fun b w l hb q => ?_)
    have := z_cnfull m hm b (by omega) q
    omega
  | succ r ih =>
    intro j m won lost hj hm hc hmem
    refine z_holdA (r := r + 1) hn hf hno hall hj hm hc hmem (fun b w l hb q hm2 => ?_)
    exact ih b (m ||| 2 ^ b) w l hb (Nat.or_lt_two_pow (n := 8) hm (Nat.pow_lt_pow_right (by omega) (by omega))) (by rw [z_cnadd m hm b (by omega) q]; omega) hm2
end GAME
