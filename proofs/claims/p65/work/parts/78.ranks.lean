/-- labels so far, with the rounds in which they were given -/
def z_lw (n : Nat) (att : Nat → Int32) (k : Nat) (ac rj : Int32) : Prop :=
  (∀ j, j < 32 → z_bi ac j = true → j < n ∧ z_bi rj j = false) ∧ (∀ j, j < 32 → z_bi rj j = true → j < n) ∧
  ∃ rk rr : Nat → Nat, (∀ j, j < n → z_bi ac j = true → rk j < k ∧ ∀ a, a < 32 → z_bi (att j) a = true → z_bi rj a = true ∧ rr a < rk j) ∧ (∀ j, j < n → z_bi rj j = true → rr j < k ∧ ∃ b, b < 32 ∧ z_bi (att j) b = true ∧ z_bi ac b = true ∧ rk b ≤ rr j)
/-- the labels at the end -/
def z_lab (n : Nat) (att : Nat → Int32) (ac rj : Int32) : Prop :=
  (∃ k, z_lw n att k ac rj) ∧ ∀ j, j < n → z_bi ac j = false → z_bi rj j = false → (∃ a, a < 32 ∧ z_bi (att j) a = true ∧ z_bi rj a = false) ∧ ∀ a, a < 32 → z_bi (att j) a = true → z_bi ac a = false
theorem z_and0 {x y : Int32} (h : ∀ j, j < 32 → z_bi x j = true → z_bi y j = false) : x &&& y = 0 := z_bi_ext fun j hj => by
  rw [z_bi_and, z_bi_0]
  cases e : z_bi x j with
  | false => rfl
  | true => rw [h j hj e]; rfl
theorem z_and0' {x y : Int32} (h : x &&& y = 0) {j : Nat} (hx : z_bi x j = true) : z_bi y j = false := by
  have g : z_bi (x &&& y) j = false := by rw [h, z_bi_0]
  rw [z_bi_and, hx, Bool.true_and] at g
  exact g
theorem z_andne {x y : Int32} (h : ¬ x &&& y = 0) : ∃ j, j < 32 ∧ z_bi x j = true ∧ z_bi y j = true := by
  obtain ⟨j, hj, e⟩ := z_ne0 h
  rw [z_bi_and, Bool.and_eq_true] at e
  exact ⟨j, hj, e.1, e.2⟩
theorem z_lwStep {al att : Nat → Int32} {n k : Nat} {ac rj f b : Int32} (hn : n ≤ 8) (hA : ∀ j, j < n → x_mo_attackers al n j = att j) (ef : x_mo_labels_7 al ac rj n n 0 0 = f) (eb : x_mo_labels_77 al ac rj n f n 0 0 = b) (h : z_lw n att k ac rj) : z_lw n att (k + 1) (ac ||| f) (rj ||| b) := by
  obtain ⟨h1, h2, rk, rr, h3, h4⟩ := h
  have cf : ∀ j, j < 32 → (z_bi f j = true ↔ (j < n ∧ z_bi (ac ||| rj) j = false ∧ att j &&& (rj ^^^ (-1 : Int32)) = 0)) := fun j hj => by
    have z := z_l7bit (al := al) (ac := ac) (rj := rj) hn n 0 0 (by omega) j hj
    rw [ef, z_bi_0] at z
    constructor
    · intro q
      rcases z.mp q with q | ⟨-, q1, q2, q3⟩
      · cases q
      · rw [hA j q1] at q3
        exact ⟨q1, q2, q3⟩
    · rintro ⟨q1, q2, q3⟩
      exact z.mpr (Or.inr ⟨Nat.zero_le j, q1, q2, by rw [hA j q1]; exact q3⟩)
  have cb : ∀ j, j < 32 → (z_bi b j = true ↔ (j < n ∧ z_bi ((ac ||| f) ||| rj) j = false ∧ ¬ att j &&& (ac ||| f) = 0)) := fun j hj => by
    have z := z_l77bit (al := al) (ac := ac) (rj := rj) (f := f) hn n 0 0 (by omega) j hj
    rw [eb, z_bi_0] at z
    constructor
    · intro q
      rcases z.mp q with q | ⟨-, q1, q2, q3⟩
      · cases q
      · rw [hA j q1] at q3
        exact ⟨q1, q2, q3⟩
    · rintro ⟨q1, q2, q3⟩
      exact z.mpr (Or.inr ⟨Nat.zero_le j, q1, q2, by rw [hA j q1]; exact q3⟩)
  have fr : ∀ j, j < 32 → z_bi f j = true → z_bi ac j = false ∧ z_bi rj j = false := fun j hj q => by
    have := ((cf j hj).mp q).2.1
    rw [z_bi_or, Bool.or_eq_false_iff] at this
    exact this
  have br : ∀ j, j < 32 → z_bi b j = true → (z_bi ac j = false ∧ z_bi f j = false) ∧ z_bi rj j = false := fun j hj q => by
    have := ((cb j hj).mp q).2.1
    rw [z_bi_or, z_bi_or, Bool.or_eq_false_iff, Bool.or_eq_false_iff] at this
    exact this
  refine ⟨fun j hj q => ?_, fun j hj q => ?_, fun j => if z_bi f j = true then k else rk j, fun j => if z_bi b j = true then k else rr j, fun j hj q => ?_, fun j hj q => ?_⟩
  · rw [z_bi_or, Bool.or_eq_true] at q
    have nb : z_bi b j = false := by
      cases e : z_bi b j with
      | false => rfl
      | true =>
        obtain ⟨⟨q1, q2⟩, -⟩ := br j hj e
        rcases q with q | q
        · rw [q1] at q
          cases q
        · rw [q2] at q
          cases q
    rw [z_bi_or, nb, Bool.or_false]
    rcases q with q | q
    · exact h1 j hj q
    · exact ⟨((cf j hj).mp q).1, (fr j hj q).2⟩
  · rw [z_bi_or, Bool.or_eq_true] at q
    rcases q with q | q
    · exact h2 j hj q
    · exact ((cb j hj).mp q).1
  · have hj32 : j < 32 := by omega
    dsimp only
    by_cases e : z_bi f j = true
    · rw [if_pos e]
      refine ⟨by omega, fun a ha qa => ?_⟩
      have ra : z_bi rj a = true := by
        have z := z_and0' ((cf j hj32).mp e).2.2 qa
        rw [z_bi_not _ ha] at z
        simpa using z
      have na : ¬ z_bi b a = true := fun c => by
        rw [(br a ha c).2] at ra
        cases ra
      rw [if_neg na, z_bi_or, ra]
      exact ⟨rfl, (h4 a (h2 a ha ra) ra).1⟩
    · rw [if_neg e]
      rw [z_bi_or, Bool.or_eq_true] at q
      have q : z_bi ac j = true := q.resolve_right e
      obtain ⟨g1, g2⟩ := h3 j hj q
      refine ⟨by omega, fun a ha qa => ?_⟩
      obtain ⟨ra, g3⟩ := g2 a ha qa
      have na : ¬ z_bi b a = true := fun c => by
        rw [(br a ha c).2] at ra
        cases ra
      rw [if_neg na, z_bi_or, ra]
      exact ⟨rfl, g3⟩
  · have hj32 : j < 32 := by omega
    dsimp only
    by_cases e : z_bi b j = true
    · rw [if_pos e]
      refine ⟨by omega, ?_⟩
      obtain ⟨c, hc, c1, c2⟩ := z_andne ((cb j hj32).mp e).2.2
      refine ⟨c, hc, c1, c2, ?_⟩
      by_cases ec : z_bi f c = true
      · rw [if_pos ec]
        exact Nat.le_refl k
      · rw [if_neg ec]
        rw [z_bi_or, Bool.or_eq_true] at c2
        have c3 := c2.resolve_right ec
        exact Nat.le_of_lt (h3 c (h1 c hc c3).1 c3).1
    · rw [if_neg e]
      rw [z_bi_or, Bool.or_eq_true] at q
      have q : z_bi rj j = true := q.resolve_right e
      obtain ⟨g1, c, hc, c1, c2, c3⟩ := h4 j hj q
      refine ⟨by omega, c, hc, c1, by rw [z_bi_or, c2]; rfl, ?_⟩
      have nf : ¬ z_bi f c = true := fun z => by
        rw [(fr c hc z).1] at c2
        cases c2
      rw [if_neg nf]
      exact c3
theorem z_labOf {al att : Nat → Int32} {n : Nat} (hn : n ≤ 8) (hA : ∀ j, j < n → x_mo_attackers al n j = att j) : ∀ m r' k ac rj ro, z_lw n att k ac rj → n ≤ m + z_cn (ac ||| rj) n → m + 1 ≤ r' → z_lab n att (x_la_12 al n r' k ac rj ro).1 (x_la_12 al n r' k ac rj ro).2.1 := by
  intro m
  induction m using Nat.strongRecOn with
  | _ m ih =>
    intro r' k ac rj ro hs hm hr'
    obtain ⟨r0', rfl⟩ : ∃ r0', r' = r0' + 1 := ⟨r' - 1, by omega⟩
    obtain ⟨f, ef⟩ : ∃ f, x_mo_labels_7 al ac rj n n 0 0 = f := ⟨_, rfl⟩
    obtain ⟨b, eb⟩ : ∃ b, x_mo_labels_77 al ac rj n f n 0 0 = b := ⟨_, rfl⟩
    have hs2 := z_lwStep hn hA ef eb hs
    have hmore := z_labels_more (al := al) (ro := ro) (ac := ac) (rj := rj) (xr := nI k) hn
    have el : x_mo_labels al ac rj ro n (nI k) = (if f ||| b = 0 then (false, ac ||| f, rj ||| b, x_mo_labels_145 (nI k) f b n 0 ro) else (true, ac ||| f, rj ||| b, x_mo_labels_145 (nI k) f b n 0 ro)) := by
      unfold x_mo_labels
      rw [ef]
      dsimp only
      rw [eb]
    rw [el] at hmore
    have eL : x_la_12 al n (r0' + 1) k ac rj ro = (if f ||| b = 0 then (ac ||| f, rj ||| b, x_mo_labels_145 (nI k) f b n 0 ro) else x_la_12 al n r0' (k + 1) (ac ||| f) (rj ||| b) (x_mo_labels_145 (nI k) f b n 0 ro)) := by
      have u : x_la_12 al n (r0' + 1) k ac rj ro = (match x_mo_labels al ac rj ro n (nI k) with | (v, ac', rj', ro') => if v then x_la_12 al n r0' (k + 1) ac' rj' ro' else (ac', rj', ro')) := rfl
      rw [u, el]
      by_cases e : f ||| b = 0
      · rw [if_pos e, if_pos e]
        rfl
      · rw [if_neg e, if_neg e]
        rfl
    rw [eL]
    by_cases e : f ||| b = 0
    · rw [if_pos e]
      obtain ⟨rfl, rfl⟩ := z_or0 e
      rw [Int32.or_zero, Int32.or_zero] at hs2 ⊢
      refine ⟨⟨_, hs2⟩, fun j hj q1 q2 => ?_⟩
      have q3 : z_bi (ac ||| rj) j = false := by rw [z_bi_or, q1, q2]; rfl
      have z := z_l7bit (al := al) (ac := ac) (rj := rj) hn n 0 0 (by omega) j (by omega)
      have z2 := z_l77bit (al := al) (ac := ac) (rj := rj) (f := 0) hn n 0 0 (by omega) j (by omega)
      rw [ef, z_bi_0, hA j hj] at z
      rw [eb, z_bi_0, hA j hj, Int32.or_zero] at z2
      constructor
      · have ne : ¬ att j &&& (rj ^^^ (-1 : Int32)) = 0 := fun c => Bool.false_ne_true (z.mpr (Or.inr ⟨Nat.zero_le j, hj, q3, c⟩))
        obtain ⟨a, ha, a1, a2⟩ := z_andne ne
        rw [z_bi_not _ ha] at a2
        exact ⟨a, ha, a1, by simpa using a2⟩
      · intro a ha qa
        have e0 : att j &&& ac = 0 := Classical.byContradiction fun c => Bool.false_ne_true (z2.mpr (Or.inr ⟨Nat.zero_le j, hj, q3, c⟩))
        exact z_and0' e0 qa
    · rw [if_neg e] at hmore ⊢
      have hlt := hmore rfl
      have hle := z_cn_le ((ac ||| f) ||| (rj ||| b)) n
      dsimp only at hlt
      exact ih (m - 1) (by omega) r0' (k + 1) (ac ||| f) (rj ||| b) _ hs2 (by omega) (by omega)
theorem z_lab0 {n : Nat} {att : Nat → Int32} : z_lw n att 1 0 0 := by
  refine ⟨fun j _ q => ?_, fun j _ q => ?_, fun _ => 0, fun _ => 0, fun j _ q => ?_, fun j _ q => ?_⟩ <;> (rw [z_bi_0] at q; cases q)
theorem z_labAll {B : Nat} {al : Nat → Int32} {s : ZS} (W : z_wfB B s) (R : z_R al 0 s) (ro : Nat → Int32) : z_lab s.1 s.2.2.2.2.2.1 (x_mo_labelsAll al s.1 ro).1 (x_mo_labelsAll al s.1 ro).2.1 :=
  z_labOf W.1 (fun j hj => z_att W R hj) s.1 (s.1 + 1) 1 0 0 ro z_lab0 (by omega) (by omega)
