section READ
variable {pc ty : Nat} {f ip : Nat → Int32}
theorem z_sg (hT : ∀ j, j < ty → f j = ip j) {x : Int32} (hx : x ≠ -1) {j : Nat} : x_mo_sign ip ty j = x ↔ j < ty ∧ f j = x := by
  unfold x_mo_sign
  by_cases a : ty ≤ j
  · rw [if_pos a]
    exact ⟨fun c => absurd c.symm hx, fun c => by omega⟩
  · rw [if_neg a, ← hT j (by omega)]
    exact ⟨fun c => ⟨by omega, c⟩, fun c => c.2⟩
theorem z_cmF0 {x : Int32} {r : List Int32} (h1 : x ≠ 35 ∧ x ≠ 63) {p : Nat} (h : ¬ (p < ty ∧ f p = x)) (oa ob : Nat → Int32) : z_cm pc ty f (x :: r) oa ob 0 p = (false, p, 0, oa, ob) := by
  have eC : z_cm pc ty f (x :: r) oa ob 0 p = (match x_pr_readPart pc p 0 oa ob ty f x with
    | (v, pp', po', oa', ob') => if v then z_cm pc ty f r oa' ob' po' pp' else (false, pp', po', oa', ob')) := rfl
  rw [eC, z_rd1 h1.1 h1.2, if_neg h]
  rfl
theorem z_cmT0 {x : Int32} {r : List Int32} (h1 : x ≠ 35 ∧ x ≠ 63) {p : Nat} (h : p < ty ∧ f p = x) (oa ob : Nat → Int32) : z_cm pc ty f (x :: r) oa ob 0 p = z_cm pc ty f r oa ob 0 (p + 1) := by
  have eC : z_cm pc ty f (x :: r) oa ob 0 p = (match x_pr_readPart pc p 0 oa ob ty f x with
    | (v, pp', po', oa', ob') => if v then z_cm pc ty f r oa' ob' po' pp' else (false, pp', po', oa', ob')) := rfl
  rw [eC, z_rd1 h1.1 h1.2, if_pos h]
  rfl
/-- a pattern that fails in its letters -/
def z_fl (pc ty : Nat) (f : Nat → Int32) (p k e : Nat) : Prop := ∀ oa ob, z_cm pc ty f (q_pat k) oa ob 0 p = (false, e, 0, oa, ob)
theorem z_rcF {p q K : Nat} {vb : Nat → Int32} (hA : ∀ k, k < 11 → ∀ oa ob, ∃ e po oa' ob', e ≤ q ∧ (k = K → e = q) ∧ z_cm pc ty f (q_pat k) oa ob 0 p = (false, e, po, oa', ob')) : ∀ r k c oa ob po pp, k + r = 11 → c ≤ q → (k ≤ K ∧ K < 11 ∨ c = q) → ∃ oa' ob' po' pp', x_pr_readCommand_10 pc p vb ty f r k c oa ob po pp = .inl (q, oa', ob', po', pp') := by
  intro r
  induction r with
  | zero =>
    intro k c oa ob po pp hk hc hq
    have e : c = q := by omega
    subst e
    exact ⟨oa, ob, po, pp, rfl⟩
  | succ r ih =>
    intro k c oa ob po pp hk hc hq
    obtain ⟨e, po1, oa1, ob1, h1, h2, h3⟩ := hA k (by omega) oa ob
    simp only [x_pr_readCommand_10]
    rw [z_cmEq (by omega), h3]
    dsimp only
    rw [if_neg Bool.false_ne_true]
    refine ih (k + 1) _ oa1 ob1 po1 e (by omega) ?_ ?_
    · split <;> omega
    · by_cases q1 : k = K
      · have := h2 q1
        right
        split <;> omega
      · rcases hq with ⟨q2, q3⟩ | q2
        · exact Or.inl ⟨by omega, q3⟩
        · right
          split <;> omega
theorem z_rcT {p q K : Nat} {vb oa ob oa' ob' : Nat → Int32} {po' : Int32} (hF : ∀ k, k < K → ∃ e, z_fl pc ty f p k e) (hK : K < 11) (h : z_cm pc ty f (q_pat K) oa ob 0 p = (true, q, po', oa', ob')) : ∀ r k c po pp, k + r = 11 → k ≤ K → x_pr_readCommand_10 pc p vb ty f r k c oa ob po pp = .inr (true, q, po', upd vb pc (nI K), oa', ob') := by
  intro r
  induction r with
  | zero =>
    intro k c po pp hk hkK
    omega
  | succ r ih =>
    intro k c po pp hk hkK
    simp only [x_pr_readCommand_10]
    rw [z_cmEq (by omega)]
    by_cases e : k = K
    · subst e
      rw [h]
      rfl
    · obtain ⟨e1, h1⟩ := hF k (by omega)
      rw [h1 oa ob]
      dsimp only
      rw [if_neg Bool.false_ne_true]
      exact ih (k + 1) _ _ _ (by omega) (by omega)
/-- one command, whatever it is -/
def z_one (pc ty p cn : Nat) (f ip cm : Nat → Int32) : Prop :=
  (∃ k q a b po, k < 11 ∧ p + 3 ≤ q ∧ q ≤ ty ∧ (∀ po0 vb oa ob, x_pr_readCommand pc p po0 vb oa ob ty f = (true, q, po, upd vb pc (nI k), (if 1 ≤ z_ar k then upd oa pc a else oa), (if 2 ≤ z_ar k then upd ob pc b else ob))) ∧ ∃ cm', x_mo_command ip ty p (-1) cm cn = (q, -1, cm', cn + 1) ∧ cm' (3 * cn) = z_kl k ∧ (1 ≤ z_ar k → cm' (3 * cn + 1) = a) ∧ (2 ≤ z_ar k → cm' (3 * cn + 2) = b) ∧ ∀ i, i < 3 * cn → cm' i = cm i) ∨
  (∃ q, q ≤ ty ∧ (∀ po0 vb oa ob, ∃ po oa' ob', x_pr_readCommand pc p po0 vb oa ob ty f = (false, q, po, vb, oa', ob')) ∧ ∃ he cm', x_mo_command ip ty p (-1) cm cn = (he, nI q, cm', cn + 1))
theorem z_oneK {p cn K : Nat} {cm : Nat → Int32} (hK : K < 11) (hc : z_cmd pc ty p K cn f ip cm) (ho : ∀ k, k < 11 → k ≠ K → ∃ e, z_fl pc ty f p k e ∧ (e ≤ p + 1 ∨ (e ≤ p + 2 ∧ p + 1 < ty ∧ f (p + 1) = (q_pat K).getD 1 0))) : z_one pc ty p cn f ip cm := by
  rcases hc with ⟨q, a, b, po, h1, h2, h3, h4⟩ | ⟨q, h1, h2, h3, h4, h5⟩
  · refine Or.inl ⟨K, q, a, b, po, hK, h1, h2, fun po0 vb oa ob => ?_, h4⟩
    unfold x_pr_readCommand
    rw [z_rcT (fun k hk => by obtain ⟨e, he, -⟩ := ho k (by omega) (by omega); exact ⟨e, he⟩) hK (h3 oa ob) 11 0 p po0 p (by omega) (by omega)]
  · refine Or.inr ⟨q, h2, fun po0 vb oa ob => ?_, h5⟩
    obtain ⟨oa', ob', po', pp', h6⟩ := z_rcF (pc := pc) (ty := ty) (f := f) (p := p) (q := q) (K := K) (vb := vb) (fun k hk oa ob => by
      by_cases e : k = K
      · subst e
        obtain ⟨po, oa', ob', h7⟩ := h4 oa ob
        exact ⟨q, po, oa', ob', Nat.le_refl q, fun _ => rfl, h7⟩
      · obtain ⟨x, h8, h9⟩ := ho k hk e
        refine ⟨x, 0, oa, ob, ?_, fun c => absurd c e, h8 oa ob⟩
        rcases h9 with h9 | ⟨h9, h10⟩
        · omega
        · have := h3 h10
          omega) 11 0 p oa ob po0 p (by omega) (by omega) (Or.inl ⟨Nat.zero_le K, hK⟩)
    unfold x_pr_readCommand
    rw [h6]
    exact ⟨po', oa', ob', rfl⟩
theorem z_oneN {p cn : Nat} {cm : Nat → Int32} (hp : p ≤ ty) (ho : ∀ k, k < 11 → z_fl pc ty f p k p) (hr : ∃ he cm', x_mo_command ip ty p (-1) cm cn = (he, nI p, cm', cn + 1)) : z_one pc ty p cn f ip cm := by
  refine Or.inr ⟨p, hp, fun po0 vb oa ob => ?_, hr⟩
  obtain ⟨oa', ob', po', pp', h6⟩ := z_rcF (pc := pc) (ty := ty) (f := f) (p := p) (q := p) (K := 0) (vb := vb) (fun k hk oa ob => ⟨p, 0, oa, ob, Nat.le_refl p, fun _ => rfl, ho k hk oa ob⟩) 11 0 p oa ob po0 p (by omega) (by omega) (Or.inr rfl)
  unfold x_pr_readCommand
  rw [h6]
  exact ⟨po', oa', ob', rfl⟩
theorem z_oneA (hT : ∀ j, j < ty → f j = ip j) (h60 : ty ≤ 60) {p : Nat} (hp : p ≤ ty) (cn : Nat) (cm : Nat → Int32) : z_one pc ty p cn f ip cm := by
  by_cases hpt : p < ty
  · have hp := hpt
    by_cases h0 : f p = 121
    · refine z_oneK (K := 3) (by omega) (z_k3 hT h60 hp h0) ?_
      intro k hk hne
      have hc11 : k = 0 ∨ k = 1 ∨ k = 2 ∨ k = 3 ∨ k = 4 ∨ k = 5 ∨ k = 6 ∨ k = 7 ∨ k = 8 ∨ k = 9 ∨ k = 10 := by omega
      rcases hc11 with rfl | rfl | rfl | rfl | rfl | rfl | rfl | rfl | rfl | rfl | rfl
      · exact ⟨p, z_cmF0 (x := 97) (by decide) (fun c => absurd (h0.symm.trans c.2) (by decide)), Or.inl (Nat.le_succ p)⟩
      · exact ⟨p, z_cmF0 (x := 114) (by decide) (fun c => absurd (h0.symm.trans c.2) (by decide)), Or.inl (Nat.le_succ p)⟩
      · exact ⟨p, z_cmF0 (x := 97) (by decide) (fun c => absurd (h0.symm.trans c.2) (by decide)), Or.inl (Nat.le_succ p)⟩
      · exact absurd rfl hne
      · exact ⟨p, z_cmF0 (x := 119) (by decide) (fun c => absurd (h0.symm.trans c.2) (by decide)), Or.inl (Nat.le_succ p)⟩
      · exact ⟨p, z_cmF0 (x := 114) (by decide) (fun c => absurd (h0.symm.trans c.2) (by decide)), Or.inl (Nat.le_succ p)⟩
      · exact ⟨p, z_cmF0 (x := 99) (by decide) (fun c => absurd (h0.symm.trans c.2) (by decide)), Or.inl (Nat.le_succ p)⟩
      · exact ⟨p, z_cmF0 (x := 114) (by decide) (fun c => absurd (h0.symm.trans c.2) (by decide)), Or.inl (Nat.le_succ p)⟩
      · exact ⟨p, z_cmF0 (x := 98) (by decide) (fun c => absurd (h0.symm.trans c.2) (by decide)), Or.inl (Nat.le_succ p)⟩
      · exact ⟨p, z_cmF0 (x := 101) (by decide) (fun c => absurd (h0.symm.trans c.2) (by decide)), Or.inl (Nat.le_succ p)⟩
      · exact ⟨p, z_cmF0 (x := 100) (by decide) (fun c => absurd (h0.symm.trans c.2) (by decide)), Or.inl (Nat.le_succ p)⟩
    have n121 := h0
    clear h0
    by_cases h0 : f p = 119
    · refine z_oneK (K := 4) (by omega) (z_k4 hT h60 hp h0) ?_
      intro k hk hne
      have hc11 : k = 0 ∨ k = 1 ∨ k = 2 ∨ k = 3 ∨ k = 4 ∨ k = 5 ∨ k = 6 ∨ k = 7 ∨ k = 8 ∨ k = 9 ∨ k = 10 := by omega
      rcases hc11 with rfl | rfl | rfl | rfl | rfl | rfl | rfl | rfl | rfl | rfl | rfl
      · exact ⟨p, z_cmF0 (x := 97) (by decide) (fun c => absurd (h0.symm.trans c.2) (by decide)), Or.inl (Nat.le_succ p)⟩
      · exact ⟨p, z_cmF0 (x := 114) (by decide) (fun c => absurd (h0.symm.trans c.2) (by decide)), Or.inl (Nat.le_succ p)⟩
      · exact ⟨p, z_cmF0 (x := 97) (by decide) (fun c => absurd (h0.symm.trans c.2) (by decide)), Or.inl (Nat.le_succ p)⟩
      · exact ⟨p, z_cmF0 (x := 121) (by decide) (fun c => absurd (h0.symm.trans c.2) (by decide)), Or.inl (Nat.le_succ p)⟩
      · exact absurd rfl hne
      · exact ⟨p, z_cmF0 (x := 114) (by decide) (fun c => absurd (h0.symm.trans c.2) (by decide)), Or.inl (Nat.le_succ p)⟩
      · exact ⟨p, z_cmF0 (x := 99) (by decide) (fun c => absurd (h0.symm.trans c.2) (by decide)), Or.inl (Nat.le_succ p)⟩
      · exact ⟨p, z_cmF0 (x := 114) (by decide) (fun c => absurd (h0.symm.trans c.2) (by decide)), Or.inl (Nat.le_succ p)⟩
      · exact ⟨p, z_cmF0 (x := 98) (by decide) (fun c => absurd (h0.symm.trans c.2) (by decide)), Or.inl (Nat.le_succ p)⟩
      · exact ⟨p, z_cmF0 (x := 101) (by decide) (fun c => absurd (h0.symm.trans c.2) (by decide)), Or.inl (Nat.le_succ p)⟩
      · exact ⟨p, z_cmF0 (x := 100) (by decide) (fun c => absurd (h0.symm.trans c.2) (by decide)), Or.inl (Nat.le_succ p)⟩
    have n119 := h0
    clear h0
    by_cases h0 : f p = 99
    · refine z_oneK (K := 6) (by omega) (z_k6 hT h60 hp h0) ?_
      intro k hk hne
      have hc11 : k = 0 ∨ k = 1 ∨ k = 2 ∨ k = 3 ∨ k = 4 ∨ k = 5 ∨ k = 6 ∨ k = 7 ∨ k = 8 ∨ k = 9 ∨ k = 10 := by omega
      rcases hc11 with rfl | rfl | rfl | rfl | rfl | rfl | rfl | rfl | rfl | rfl | rfl
      · exact ⟨p, z_cmF0 (x := 97) (by decide) (fun c => absurd (h0.symm.trans c.2) (by decide)), Or.inl (Nat.le_succ p)⟩
      · exact ⟨p, z_cmF0 (x := 114) (by decide) (fun c => absurd (h0.symm.trans c.2) (by decide)), Or.inl (Nat.le_succ p)⟩
      · exact ⟨p, z_cmF0 (x := 97) (by decide) (fun c => absurd (h0.symm.trans c.2) (by decide)), Or.inl (Nat.le_succ p)⟩
      · exact ⟨p, z_cmF0 (x := 121) (by decide) (fun c => absurd (h0.symm.trans c.2) (by decide)), Or.inl (Nat.le_succ p)⟩
      · exact ⟨p, z_cmF0 (x := 119) (by decide) (fun c => absurd (h0.symm.trans c.2) (by decide)), Or.inl (Nat.le_succ p)⟩
      · exact ⟨p, z_cmF0 (x := 114) (by decide) (fun c => absurd (h0.symm.trans c.2) (by decide)), Or.inl (Nat.le_succ p)⟩
      · exact absurd rfl hne
      · exact ⟨p, z_cmF0 (x := 114) (by decide) (fun c => absurd (h0.symm.trans c.2) (by decide)), Or.inl (Nat.le_succ p)⟩
      · exact ⟨p, z_cmF0 (x := 98) (by decide) (fun c => absurd (h0.symm.trans c.2) (by decide)), Or.inl (Nat.le_succ p)⟩
      · exact ⟨p, z_cmF0 (x := 101) (by decide) (fun c => absurd (h0.symm.trans c.2) (by decide)), Or.inl (Nat.le_succ p)⟩
      · exact ⟨p, z_cmF0 (x := 100) (by decide) (fun c => absurd (h0.symm.trans c.2) (by decide)), Or.inl (Nat.le_succ p)⟩
    have n99 := h0
    clear h0
    by_cases h0 : f p = 98
    · refine z_oneK (K := 8) (by omega) (z_k8 hT h60 hp h0) ?_
      intro k hk hne
      have hc11 : k = 0 ∨ k = 1 ∨ k = 2 ∨ k = 3 ∨ k = 4 ∨ k = 5 ∨ k = 6 ∨ k = 7 ∨ k = 8 ∨ k = 9 ∨ k = 10 := by omega
      rcases hc11 with rfl | rfl | rfl | rfl | rfl | rfl | rfl | rfl | rfl | rfl | rfl
      · exact ⟨p, z_cmF0 (x := 97) (by decide) (fun c => absurd (h0.symm.trans c.2) (by decide)), Or.inl (Nat.le_succ p)⟩
      · exact ⟨p, z_cmF0 (x := 114) (by decide) (fun c => absurd (h0.symm.trans c.2) (by decide)), Or.inl (Nat.le_succ p)⟩
      · exact ⟨p, z_cmF0 (x := 97) (by decide) (fun c => absurd (h0.symm.trans c.2) (by decide)), Or.inl (Nat.le_succ p)⟩
      · exact ⟨p, z_cmF0 (x := 121) (by decide) (fun c => absurd (h0.symm.trans c.2) (by decide)), Or.inl (Nat.le_succ p)⟩
      · exact ⟨p, z_cmF0 (x := 119) (by decide) (fun c => absurd (h0.symm.trans c.2) (by decide)), Or.inl (Nat.le_succ p)⟩
      · exact ⟨p, z_cmF0 (x := 114) (by decide) (fun c => absurd (h0.symm.trans c.2) (by decide)), Or.inl (Nat.le_succ p)⟩
      · exact ⟨p, z_cmF0 (x := 99) (by decide) (fun c => absurd (h0.symm.trans c.2) (by decide)), Or.inl (Nat.le_succ p)⟩
      · exact ⟨p, z_cmF0 (x := 114) (by decide) (fun c => absurd (h0.symm.trans c.2) (by decide)), Or.inl (Nat.le_succ p)⟩
      · exact absurd rfl hne
      · exact ⟨p, z_cmF0 (x := 101) (by decide) (fun c => absurd (h0.symm.trans c.2) (by decide)), Or.inl (Nat.le_succ p)⟩
      · exact ⟨p, z_cmF0 (x := 100) (by decide) (fun c => absurd (h0.symm.trans c.2) (by decide)), Or.inl (Nat.le_succ p)⟩
    have n98 := h0
    clear h0
    by_cases h0 : f p = 101
    · refine z_oneK (K := 9) (by omega) (z_k9 hT h60 hp h0) ?_
      intro k hk hne
      have hc11 : k = 0 ∨ k = 1 ∨ k = 2 ∨ k = 3 ∨ k = 4 ∨ k = 5 ∨ k = 6 ∨ k = 7 ∨ k = 8 ∨ k = 9 ∨ k = 10 := by omega
      rcases hc11 with rfl | rfl | rfl | rfl | rfl | rfl | rfl | rfl | rfl | rfl | rfl
      · exact ⟨p, z_cmF0 (x := 97) (by decide) (fun c => absurd (h0.symm.trans c.2) (by decide)), Or.inl (Nat.le_succ p)⟩
      · exact ⟨p, z_cmF0 (x := 114) (by decide) (fun c => absurd (h0.symm.trans c.2) (by decide)), Or.inl (Nat.le_succ p)⟩
      · exact ⟨p, z_cmF0 (x := 97) (by decide) (fun c => absurd (h0.symm.trans c.2) (by decide)), Or.inl (Nat.le_succ p)⟩
      · exact ⟨p, z_cmF0 (x := 121) (by decide) (fun c => absurd (h0.symm.trans c.2) (by decide)), Or.inl (Nat.le_succ p)⟩
      · exact ⟨p, z_cmF0 (x := 119) (by decide) (fun c => absurd (h0.symm.trans c.2) (by decide)), Or.inl (Nat.le_succ p)⟩
      · exact ⟨p, z_cmF0 (x := 114) (by decide) (fun c => absurd (h0.symm.trans c.2) (by decide)), Or.inl (Nat.le_succ p)⟩
      · exact ⟨p, z_cmF0 (x := 99) (by decide) (fun c => absurd (h0.symm.trans c.2) (by decide)), Or.inl (Nat.le_succ p)⟩
      · exact ⟨p, z_cmF0 (x := 114) (by decide) (fun c => absurd (h0.symm.trans c.2) (by decide)), Or.inl (Nat.le_succ p)⟩
      · exact ⟨p, z_cmF0 (x := 98) (by decide) (fun c => absurd (h0.symm.trans c.2) (by decide)), Or.inl (Nat.le_succ p)⟩
      · exact absurd rfl hne
      · exact ⟨p, z_cmF0 (x := 100) (by decide) (fun c => absurd (h0.symm.trans c.2) (by decide)), Or.inl (Nat.le_succ p)⟩
    have n101 := h0
    clear h0
    by_cases h0 : f p = 100
    · refine z_oneK (K := 10) (by omega) (z_k10 hT h60 hp h0) ?_
      intro k hk hne
      have hc11 : k = 0 ∨ k = 1 ∨ k = 2 ∨ k = 3 ∨ k = 4 ∨ k = 5 ∨ k = 6 ∨ k = 7 ∨ k = 8 ∨ k = 9 ∨ k = 10 := by omega
      rcases hc11 with rfl | rfl | rfl | rfl | rfl | rfl | rfl | rfl | rfl | rfl | rfl
      · exact ⟨p, z_cmF0 (x := 97) (by decide) (fun c => absurd (h0.symm.trans c.2) (by decide)), Or.inl (Nat.le_succ p)⟩
      · exact ⟨p, z_cmF0 (x := 114) (by decide) (fun c => absurd (h0.symm.trans c.2) (by decide)), Or.inl (Nat.le_succ p)⟩
      · exact ⟨p, z_cmF0 (x := 97) (by decide) (fun c => absurd (h0.symm.trans c.2) (by decide)), Or.inl (Nat.le_succ p)⟩
      · exact ⟨p, z_cmF0 (x := 121) (by decide) (fun c => absurd (h0.symm.trans c.2) (by decide)), Or.inl (Nat.le_succ p)⟩
      · exact ⟨p, z_cmF0 (x := 119) (by decide) (fun c => absurd (h0.symm.trans c.2) (by decide)), Or.inl (Nat.le_succ p)⟩
      · exact ⟨p, z_cmF0 (x := 114) (by decide) (fun c => absurd (h0.symm.trans c.2) (by decide)), Or.inl (Nat.le_succ p)⟩
      · exact ⟨p, z_cmF0 (x := 99) (by decide) (fun c => absurd (h0.symm.trans c.2) (by decide)), Or.inl (Nat.le_succ p)⟩
      · exact ⟨p, z_cmF0 (x := 114) (by decide) (fun c => absurd (h0.symm.trans c.2) (by decide)), Or.inl (Nat.le_succ p)⟩
      · exact ⟨p, z_cmF0 (x := 98) (by decide) (fun c => absurd (h0.symm.trans c.2) (by decide)), Or.inl (Nat.le_succ p)⟩
      · exact ⟨p, z_cmF0 (x := 101) (by decide) (fun c => absurd (h0.symm.trans c.2) (by decide)), Or.inl (Nat.le_succ p)⟩
      · exact absurd rfl hne
    have n100 := h0
    clear h0
    by_cases h0 : f p = 97
    · by_cases hs : x_mo_sign ip ty (p + 1) = 116
      · have hs2 := (z_sg hT (by decide : (116 : Int32) ≠ -1)).mp hs
        refine z_oneK (K := 2) (by omega) (z_k2 hT h60 hp h0 hs) ?_
        intro k hk hne
        have hc11 : k = 0 ∨ k = 1 ∨ k = 2 ∨ k = 3 ∨ k = 4 ∨ k = 5 ∨ k = 6 ∨ k = 7 ∨ k = 8 ∨ k = 9 ∨ k = 10 := by omega
        rcases hc11 with rfl | rfl | rfl | rfl | rfl | rfl | rfl | rfl | rfl | rfl | rfl
        · exact ⟨p + 1, fun oa ob => (z_cmT0 (x := 97) (by decide) ⟨hp, h0⟩ oa ob).trans (z_cmF0 (x := 100) (by decide) (fun c => absurd (hs2.2.symm.trans c.2) (by decide)) oa ob), Or.inl (Nat.le_refl _)⟩
        · exact ⟨p, z_cmF0 (x := 114) (by decide) (fun c => absurd (h0.symm.trans c.2) (by decide)), Or.inl (Nat.le_succ p)⟩
        · exact absurd rfl hne
        · exact ⟨p, z_cmF0 (x := 121) (by decide) (fun c => absurd (h0.symm.trans c.2) (by decide)), Or.inl (Nat.le_succ p)⟩
        · exact ⟨p, z_cmF0 (x := 119) (by decide) (fun c => absurd (h0.symm.trans c.2) (by decide)), Or.inl (Nat.le_succ p)⟩
        · exact ⟨p, z_cmF0 (x := 114) (by decide) (fun c => absurd (h0.symm.trans c.2) (by decide)), Or.inl (Nat.le_succ p)⟩
        · exact ⟨p, z_cmF0 (x := 99) (by decide) (fun c => absurd (h0.symm.trans c.2) (by decide)), Or.inl (Nat.le_succ p)⟩
        · exact ⟨p, z_cmF0 (x := 114) (by decide) (fun c => absurd (h0.symm.trans c.2) (by decide)), Or.inl (Nat.le_succ p)⟩
        · exact ⟨p, z_cmF0 (x := 98) (by decide) (fun c => absurd (h0.symm.trans c.2) (by decide)), Or.inl (Nat.le_succ p)⟩
        · exact ⟨p, z_cmF0 (x := 101) (by decide) (fun c => absurd (h0.symm.trans c.2) (by decide)), Or.inl (Nat.le_succ p)⟩
        · exact ⟨p, z_cmF0 (x := 100) (by decide) (fun c => absurd (h0.symm.trans c.2) (by decide)), Or.inl (Nat.le_succ p)⟩
      · refine z_oneK (K := 0) (by omega) (z_k0 hT h60 hp h0 hs) ?_
        intro k hk hne
        have hc11 : k = 0 ∨ k = 1 ∨ k = 2 ∨ k = 3 ∨ k = 4 ∨ k = 5 ∨ k = 6 ∨ k = 7 ∨ k = 8 ∨ k = 9 ∨ k = 10 := by omega
        rcases hc11 with rfl | rfl | rfl | rfl | rfl | rfl | rfl | rfl | rfl | rfl | rfl
        · exact absurd rfl hne
        · exact ⟨p, z_cmF0 (x := 114) (by decide) (fun c => absurd (h0.symm.trans c.2) (by decide)), Or.inl (Nat.le_succ p)⟩
        · exact ⟨p + 1, fun oa ob => (z_cmT0 (x := 97) (by decide) ⟨hp, h0⟩ oa ob).trans (z_cmF0 (x := 116) (by decide) (fun c => hs ((z_sg hT (by decide : (116 : Int32) ≠ -1)).mpr c)) oa ob), Or.inl (Nat.le_refl _)⟩
        · exact ⟨p, z_cmF0 (x := 121) (by decide) (fun c => absurd (h0.symm.trans c.2) (by decide)), Or.inl (Nat.le_succ p)⟩
        · exact ⟨p, z_cmF0 (x := 119) (by decide) (fun c => absurd (h0.symm.trans c.2) (by decide)), Or.inl (Nat.le_succ p)⟩
        · exact ⟨p, z_cmF0 (x := 114) (by decide) (fun c => absurd (h0.symm.trans c.2) (by decide)), Or.inl (Nat.le_succ p)⟩
        · exact ⟨p, z_cmF0 (x := 99) (by decide) (fun c => absurd (h0.symm.trans c.2) (by decide)), Or.inl (Nat.le_succ p)⟩
        · exact ⟨p, z_cmF0 (x := 114) (by decide) (fun c => absurd (h0.symm.trans c.2) (by decide)), Or.inl (Nat.le_succ p)⟩
        · exact ⟨p, z_cmF0 (x := 98) (by decide) (fun c => absurd (h0.symm.trans c.2) (by decide)), Or.inl (Nat.le_succ p)⟩
        · exact ⟨p, z_cmF0 (x := 101) (by decide) (fun c => absurd (h0.symm.trans c.2) (by decide)), Or.inl (Nat.le_succ p)⟩
        · exact ⟨p, z_cmF0 (x := 100) (by decide) (fun c => absurd (h0.symm.trans c.2) (by decide)), Or.inl (Nat.le_succ p)⟩
    have n97 := h0
    clear h0
    by_cases h0 : f p = 114
    · by_cases h1 : p + 1 < ty ∧ f (p + 1) = 101
      · by_cases hs : x_mo_sign ip ty (p + 2) = 110
        · have hs2 := (z_sg hT (by decide : (110 : Int32) ≠ -1)).mp hs
          refine z_oneK (K := 5) (by omega) (z_k5 hT h60 hp h0 h1 hs) ?_
          intro k hk hne
          have hc11 : k = 0 ∨ k = 1 ∨ k = 2 ∨ k = 3 ∨ k = 4 ∨ k = 5 ∨ k = 6 ∨ k = 7 ∨ k = 8 ∨ k = 9 ∨ k = 10 := by omega
          rcases hc11 with rfl | rfl | rfl | rfl | rfl | rfl | rfl | rfl | rfl | rfl | rfl
          · exact ⟨p, z_cmF0 (x := 97) (by decide) (fun c => absurd (h0.symm.trans c.2) (by decide)), Or.inl (Nat.le_succ p)⟩
          · exact ⟨p + 2, fun oa ob => (z_cmT0 (x := 114) (by decide) ⟨hp, h0⟩ oa ob).trans ((z_cmT0 (x := 101) (by decide) h1 oa ob).trans (z_cmF0 (x := 109) (by decide) (fun c => absurd (hs2.2.symm.trans c.2) (by decide)) oa ob)), Or.inr ⟨Nat.le_refl _, h1⟩⟩
          · exact ⟨p, z_cmF0 (x := 97) (by decide) (fun c => absurd (h0.symm.trans c.2) (by decide)), Or.inl (Nat.le_succ p)⟩
          · exact ⟨p, z_cmF0 (x := 121) (by decide) (fun c => absurd (h0.symm.trans c.2) (by decide)), Or.inl (Nat.le_succ p)⟩
          · exact ⟨p, z_cmF0 (x := 119) (by decide) (fun c => absurd (h0.symm.trans c.2) (by decide)), Or.inl (Nat.le_succ p)⟩
          · exact absurd rfl hne
          · exact ⟨p, z_cmF0 (x := 99) (by decide) (fun c => absurd (h0.symm.trans c.2) (by decide)), Or.inl (Nat.le_succ p)⟩
          · exact ⟨p + 2, fun oa ob => (z_cmT0 (x := 114) (by decide) ⟨hp, h0⟩ oa ob).trans ((z_cmT0 (x := 101) (by decide) h1 oa ob).trans (z_cmF0 (x := 112) (by decide) (fun c => absurd (hs2.2.symm.trans c.2) (by decide)) oa ob)), Or.inr ⟨Nat.le_refl _, h1⟩⟩
          · exact ⟨p, z_cmF0 (x := 98) (by decide) (fun c => absurd (h0.symm.trans c.2) (by decide)), Or.inl (Nat.le_succ p)⟩
          · exact ⟨p, z_cmF0 (x := 101) (by decide) (fun c => absurd (h0.symm.trans c.2) (by decide)), Or.inl (Nat.le_succ p)⟩
          · exact ⟨p, z_cmF0 (x := 100) (by decide) (fun c => absurd (h0.symm.trans c.2) (by decide)), Or.inl (Nat.le_succ p)⟩
        by_cases hs3 : x_mo_sign ip ty (p + 2) = 112
        · have hs2 := (z_sg hT (by decide : (112 : Int32) ≠ -1)).mp hs3
          refine z_oneK (K := 7) (by omega) (z_k7 hT h60 hp h0 h1 hs3) ?_
          intro k hk hne
          have hc11 : k = 0 ∨ k = 1 ∨ k = 2 ∨ k = 3 ∨ k = 4 ∨ k = 5 ∨ k = 6 ∨ k = 7 ∨ k = 8 ∨ k = 9 ∨ k = 10 := by omega
          rcases hc11 with rfl | rfl | rfl | rfl | rfl | rfl | rfl | rfl | rfl | rfl | rfl
          · exact ⟨p, z_cmF0 (x := 97) (by decide) (fun c => absurd (h0.symm.trans c.2) (by decide)), Or.inl (Nat.le_succ p)⟩
          · exact ⟨p + 2, fun oa ob => (z_cmT0 (x := 114) (by decide) ⟨hp, h0⟩ oa ob).trans ((z_cmT0 (x := 101) (by decide) h1 oa ob).trans (z_cmF0 (x := 109) (by decide) (fun c => absurd (hs2.2.symm.trans c.2) (by decide)) oa ob)), Or.inr ⟨Nat.le_refl _, h1⟩⟩
          · exact ⟨p, z_cmF0 (x := 97) (by decide) (fun c => absurd (h0.symm.trans c.2) (by decide)), Or.inl (Nat.le_succ p)⟩
          · exact ⟨p, z_cmF0 (x := 121) (by decide) (fun c => absurd (h0.symm.trans c.2) (by decide)), Or.inl (Nat.le_succ p)⟩
          · exact ⟨p, z_cmF0 (x := 119) (by decide) (fun c => absurd (h0.symm.trans c.2) (by decide)), Or.inl (Nat.le_succ p)⟩
          · exact ⟨p + 2, fun oa ob => (z_cmT0 (x := 114) (by decide) ⟨hp, h0⟩ oa ob).trans ((z_cmT0 (x := 101) (by decide) h1 oa ob).trans (z_cmF0 (x := 110) (by decide) (fun c => absurd (hs2.2.symm.trans c.2) (by decide)) oa ob)), Or.inr ⟨Nat.le_refl _, h1⟩⟩
          · exact ⟨p, z_cmF0 (x := 99) (by decide) (fun c => absurd (h0.symm.trans c.2) (by decide)), Or.inl (Nat.le_succ p)⟩
          · exact absurd rfl hne
          · exact ⟨p, z_cmF0 (x := 98) (by decide) (fun c => absurd (h0.symm.trans c.2) (by decide)), Or.inl (Nat.le_succ p)⟩
          · exact ⟨p, z_cmF0 (x := 101) (by decide) (fun c => absurd (h0.symm.trans c.2) (by decide)), Or.inl (Nat.le_succ p)⟩
          · exact ⟨p, z_cmF0 (x := 100) (by decide) (fun c => absurd (h0.symm.trans c.2) (by decide)), Or.inl (Nat.le_succ p)⟩
        · refine z_oneK (K := 1) (by omega) (z_k1 hT h60 hp h0 (fun c => c.2.elim hs hs3)) ?_
          intro k hk hne
          have hc11 : k = 0 ∨ k = 1 ∨ k = 2 ∨ k = 3 ∨ k = 4 ∨ k = 5 ∨ k = 6 ∨ k = 7 ∨ k = 8 ∨ k = 9 ∨ k = 10 := by omega
          rcases hc11 with rfl | rfl | rfl | rfl | rfl | rfl | rfl | rfl | rfl | rfl | rfl
          · exact ⟨p, z_cmF0 (x := 97) (by decide) (fun c => absurd (h0.symm.trans c.2) (by decide)), Or.inl (Nat.le_succ p)⟩
          · exact absurd rfl hne
          · exact ⟨p, z_cmF0 (x := 97) (by decide) (fun c => absurd (h0.symm.trans c.2) (by decide)), Or.inl (Nat.le_succ p)⟩
          · exact ⟨p, z_cmF0 (x := 121) (by decide) (fun c => absurd (h0.symm.trans c.2) (by decide)), Or.inl (Nat.le_succ p)⟩
          · exact ⟨p, z_cmF0 (x := 119) (by decide) (fun c => absurd (h0.symm.trans c.2) (by decide)), Or.inl (Nat.le_succ p)⟩
          · exact ⟨p + 2, fun oa ob => (z_cmT0 (x := 114) (by decide) ⟨hp, h0⟩ oa ob).trans ((z_cmT0 (x := 101) (by decide) h1 oa ob).trans (z_cmF0 (x := 110) (by decide) (fun c => hs ((z_sg hT (by decide : (110 : Int32) ≠ -1)).mpr c)) oa ob)), Or.inr ⟨Nat.le_refl _, h1⟩⟩
          · exact ⟨p, z_cmF0 (x := 99) (by decide) (fun c => absurd (h0.symm.trans c.2) (by decide)), Or.inl (Nat.le_succ p)⟩
          · exact ⟨p + 2, fun oa ob => (z_cmT0 (x := 114) (by decide) ⟨hp, h0⟩ oa ob).trans ((z_cmT0 (x := 101) (by decide) h1 oa ob).trans (z_cmF0 (x := 112) (by decide) (fun c => hs3 ((z_sg hT (by decide : (112 : Int32) ≠ -1)).mpr c)) oa ob)), Or.inr ⟨Nat.le_refl _, h1⟩⟩
          · exact ⟨p, z_cmF0 (x := 98) (by decide) (fun c => absurd (h0.symm.trans c.2) (by decide)), Or.inl (Nat.le_succ p)⟩
          · exact ⟨p, z_cmF0 (x := 101) (by decide) (fun c => absurd (h0.symm.trans c.2) (by decide)), Or.inl (Nat.le_succ p)⟩
          · exact ⟨p, z_cmF0 (x := 100) (by decide) (fun c => absurd (h0.symm.trans c.2) (by decide)), Or.inl (Nat.le_succ p)⟩
      · refine z_oneK (K := 1) (by omega) (z_k1 hT h60 hp h0 (fun c => h1 c.1)) ?_
        intro k hk hne
        have hc11 : k = 0 ∨ k = 1 ∨ k = 2 ∨ k = 3 ∨ k = 4 ∨ k = 5 ∨ k = 6 ∨ k = 7 ∨ k = 8 ∨ k = 9 ∨ k = 10 := by omega
        rcases hc11 with rfl | rfl | rfl | rfl | rfl | rfl | rfl | rfl | rfl | rfl | rfl
        · exact ⟨p, z_cmF0 (x := 97) (by decide) (fun c => absurd (h0.symm.trans c.2) (by decide)), Or.inl (Nat.le_succ p)⟩
        · exact absurd rfl hne
        · exact ⟨p, z_cmF0 (x := 97) (by decide) (fun c => absurd (h0.symm.trans c.2) (by decide)), Or.inl (Nat.le_succ p)⟩
        · exact ⟨p, z_cmF0 (x := 121) (by decide) (fun c => absurd (h0.symm.trans c.2) (by decide)), Or.inl (Nat.le_succ p)⟩
        · exact ⟨p, z_cmF0 (x := 119) (by decide) (fun c => absurd (h0.symm.trans c.2) (by decide)), Or.inl (Nat.le_succ p)⟩
        · exact ⟨p + 1, fun oa ob => (z_cmT0 (x := 114) (by decide) ⟨hp, h0⟩ oa ob).trans (z_cmF0 (x := 101) (by decide) (h1) oa ob), Or.inl (Nat.le_refl _)⟩
        · exact ⟨p, z_cmF0 (x := 99) (by decide) (fun c => absurd (h0.symm.trans c.2) (by decide)), Or.inl (Nat.le_succ p)⟩
        · exact ⟨p + 1, fun oa ob => (z_cmT0 (x := 114) (by decide) ⟨hp, h0⟩ oa ob).trans (z_cmF0 (x := 101) (by decide) (h1) oa ob), Or.inl (Nat.le_refl _)⟩
        · exact ⟨p, z_cmF0 (x := 98) (by decide) (fun c => absurd (h0.symm.trans c.2) (by decide)), Or.inl (Nat.le_succ p)⟩
        · exact ⟨p, z_cmF0 (x := 101) (by decide) (fun c => absurd (h0.symm.trans c.2) (by decide)), Or.inl (Nat.le_succ p)⟩
        · exact ⟨p, z_cmF0 (x := 100) (by decide) (fun c => absurd (h0.symm.trans c.2) (by decide)), Or.inl (Nat.le_succ p)⟩
    have n114 := h0
    refine z_oneN (Nat.le_of_lt hp) ?_ ?_
    · intro k hk
      have hc11 : k = 0 ∨ k = 1 ∨ k = 2 ∨ k = 3 ∨ k = 4 ∨ k = 5 ∨ k = 6 ∨ k = 7 ∨ k = 8 ∨ k = 9 ∨ k = 10 := by omega
      rcases hc11 with rfl | rfl | rfl | rfl | rfl | rfl | rfl | rfl | rfl | rfl | rfl
      · exact z_cmF0 (x := 97) (by decide) (fun c => n97 c.2)
      · exact z_cmF0 (x := 114) (by decide) (fun c => n114 c.2)
      · exact z_cmF0 (x := 97) (by decide) (fun c => n97 c.2)
      · exact z_cmF0 (x := 121) (by decide) (fun c => n121 c.2)
      · exact z_cmF0 (x := 119) (by decide) (fun c => n119 c.2)
      · exact z_cmF0 (x := 114) (by decide) (fun c => n114 c.2)
      · exact z_cmF0 (x := 99) (by decide) (fun c => n99 c.2)
      · exact z_cmF0 (x := 114) (by decide) (fun c => n114 c.2)
      · exact z_cmF0 (x := 98) (by decide) (fun c => n98 c.2)
      · exact z_cmF0 (x := 101) (by decide) (fun c => n101 c.2)
      · exact z_cmF0 (x := 100) (by decide) (fun c => n100 c.2)
    · have es : x_mo_sign ip ty p = f p := (if_neg (by omega)).trans (hT p hp).symm
      have ef : x_mo_isFirst (x_mo_sign ip ty p) = false := by
        unfold x_mo_isFirst
        rw [es, if_neg n97, if_neg n114, if_neg n121, if_neg n119, if_neg n99, if_neg n98, if_neg n101, if_neg n100]
      refine ⟨p, x_mo_command_24 cn 3 0 cm, ?_⟩
      unfold x_mo_command
      rw [ef]
      rfl
  · refine z_oneN hp ?_ ?_
    · intro k hk
      have hc11 : k = 0 ∨ k = 1 ∨ k = 2 ∨ k = 3 ∨ k = 4 ∨ k = 5 ∨ k = 6 ∨ k = 7 ∨ k = 8 ∨ k = 9 ∨ k = 10 := by omega
      rcases hc11 with rfl | rfl | rfl | rfl | rfl | rfl | rfl | rfl | rfl | rfl | rfl
      · exact z_cmF0 (x := 97) (by decide) (fun c => hpt c.1)
      · exact z_cmF0 (x := 114) (by decide) (fun c => hpt c.1)
      · exact z_cmF0 (x := 97) (by decide) (fun c => hpt c.1)
      · exact z_cmF0 (x := 121) (by decide) (fun c => hpt c.1)
      · exact z_cmF0 (x := 119) (by decide) (fun c => hpt c.1)
      · exact z_cmF0 (x := 114) (by decide) (fun c => hpt c.1)
      · exact z_cmF0 (x := 99) (by decide) (fun c => hpt c.1)
      · exact z_cmF0 (x := 114) (by decide) (fun c => hpt c.1)
      · exact z_cmF0 (x := 98) (by decide) (fun c => hpt c.1)
      · exact z_cmF0 (x := 101) (by decide) (fun c => hpt c.1)
      · exact z_cmF0 (x := 100) (by decide) (fun c => hpt c.1)
    · have es : x_mo_sign ip ty p = -1 := if_pos (by omega)
      refine ⟨p, x_mo_command_24 cn 3 0 cm, ?_⟩
      unfold x_mo_command
      rw [es]
      rfl
/-- a command kept by both sides -/
def z_rel (i : Nat) (vb oa ob cm : Nat → Int32) : Prop := ∃ k, k < 11 ∧ vb i = nI k ∧ cm (3 * i) = z_kl k ∧ (1 ≤ z_ar k → oa i = cm (3 * i + 1)) ∧ (2 ≤ z_ar k → ob i = cm (3 * i + 2))
def z_fin (ty : Nat) (x : Nat × Int32 × (Nat → Int32) × Nat) : Nat × Int32 × (Nat → Int32) × Nat := if (0 : Int32) ≤ x.2.1 then x else if ty ≤ x.1 then x else (x.1, nI x.1, x.2.2)
theorem z_pa0 {R he cn : Nat} {er : Int32} {cm : Nat → Int32} (h : (0 : Int32) ≤ er) : x_pa_19 ip ty R he er cm cn = (he, er, cm, cn) := by
  cases R with
  | zero => rfl
  | succ R =>
    simp only [x_pa_19]
    rw [if_pos h]
theorem z_pa1 {R he cn : Nat} {cm : Nat → Int32} (h : ¬ x_mo_sign ip ty he = 59) : x_pa_19 ip ty R he (-1) cm cn = (he, -1, cm, cn) := by
  cases R with
  | zero => rfl
  | succ R =>
    simp only [x_pa_19]
    rw [if_neg (by decide), if_neg h]
theorem z_readL (hT : ∀ j, j < ty → f j = ip j) (h60 : ty ≤ 60) : ∀ r pc p po vb oa ob cm R, r + pc = 16 → 4 * pc ≤ p → p ≤ ty → ty ≤ R + p → (∀ i, i < pc → z_rel i vb oa ob cm) →
    ∃ he er cm1 cn1, x_mo_command ip ty p (-1) cm pc = (he, er, cm1, cn1) ∧
    (((x_pr_read_10 ty f r pc p po vb oa ob).1 = true ∧ (z_fin ty (x_pa_19 ip ty R he er cm1 cn1)).2.1 = -1 ∧ (x_pr_read_10 ty f r pc p po vb oa ob).2.1 = (z_fin ty (x_pa_19 ip ty R he er cm1 cn1)).2.2.2 ∧ (x_pr_read_10 ty f r pc p po vb oa ob).2.1 ≤ 15 ∧ ∀ i, i < (x_pr_read_10 ty f r pc p po vb oa ob).2.1 → z_rel i (x_pr_read_10 ty f r pc p po vb oa ob).2.2.2.2.1 (x_pr_read_10 ty f r pc p po vb oa ob).2.2.2.2.2.1 (x_pr_read_10 ty f r pc p po vb oa ob).2.2.2.2.2.2 (z_fin ty (x_pa_19 ip ty R he er cm1 cn1)).2.2.1) ∨
     ((x_pr_read_10 ty f r pc p po vb oa ob).1 = false ∧ (x_pr_read_10 ty f r pc p po vb oa ob).2.2.1 ≤ 60 ∧ (z_fin ty (x_pa_19 ip ty R he er cm1 cn1)).2.1 = nI (x_pr_read_10 ty f r pc p po vb oa ob).2.2.1)) := by
  intro r
  induction r with
  | zero =>
    intro pc p po vb oa ob cm R h1 h2 h3
    omega
  | succ r ih =>
    intro pc p po vb oa ob cm R h1 h2 h3 hR hrel
    have u : x_pr_read_10 ty f (r + 1) pc p po vb oa ob = (match x_pr_readCommand pc p po vb oa ob ty f with | (v1, y1_pp, y1_po, y1_vb, y1_oa, y1_ob) => (if v1 then (if y1_pp = ty then (true, pc + 1, y1_pp, y1_po, y1_vb, y1_oa, y1_ob) else (match x_pr_readCharacter y1_pp ty f 59 with | (v3, y3_pp) => (if v3 then x_pr_read_10 ty f r (pc + 1) y3_pp y1_po y1_vb y1_oa y1_ob else (false, pc, y3_pp, y1_po, y1_vb, y1_oa, y1_ob)))) else (false, pc, y1_pp, y1_po, y1_vb, y1_oa, y1_ob))) := rfl
    rcases z_oneA (pc := pc) hT h60 h3 pc cm with ⟨k, q, a, b, po1, hk, hq1, hq2, hC, cm', hM, m0, m1, m2, m3⟩ | ⟨q, hq2, hC, he, cm', hM⟩
    · refine ⟨q, -1, cm', pc + 1, hM, ?_⟩
      rw [u, hC]
      dsimp only
      rw [if_pos rfl]
      have hrel2 : ∀ i, i < pc + 1 → z_rel i (upd vb pc (nI k)) (if 1 ≤ z_ar k then upd oa pc a else oa) (if 2 ≤ z_ar k then upd ob pc b else ob) cm' := by
        intro i hi
        by_cases e : i = pc
        · subst e
          refine ⟨k, hk, upd_eq, m0, fun c => ?_, fun c => ?_⟩
          · rw [if_pos c, upd_eq]
            exact (m1 c).symm
          · rw [if_pos c, upd_eq]
            exact (m2 c).symm
        · obtain ⟨k', g1, g2, g3, g4, g5⟩ := hrel i (by omega)
          refine ⟨k', g1, (upd_ne e).trans g2, (m3 _ (by omega)).trans g3, fun c => ?_, fun c => ?_⟩
          · rw [m3 _ (by omega), ← g4 c]
            split
            · exact upd_ne e
            · rfl
          · rw [m3 _ (by omega), ← g5 c]
            split
            · exact upd_ne e
            · rfl
      by_cases e : q = ty
      · rw [if_pos e]
        have es : ¬ x_mo_sign ip ty q = 59 := by
          have : x_mo_sign ip ty q = -1 := if_pos (by omega)
          rw [this]
          decide
        rw [z_pa1 es]
        have eF : z_fin ty (q, -1, cm', pc + 1) = (q, -1, cm', pc + 1) := by
          unfold z_fin
          rw [if_neg (show ¬ (0 : Int32) ≤ -1 by decide), if_pos (show ty ≤ q by omega)]
        rw [eF]
        exact Or.inl ⟨rfl, rfl, rfl, by show pc + 1 ≤ 15; omega, hrel2⟩
      · rw [if_neg e]
        have hqt : q < ty := by omega
        have hsg := z_sg hT (by decide : (59 : Int32) ≠ -1) (j := q)
        have ec : x_pr_readCharacter q ty f 59 = if q < ty ∧ f q = 59 then (true, q + 1) else (false, q) := by
          unfold x_pr_readCharacter
          rw [if_neg (by omega)]
          by_cases c : f q = 59
          · rw [if_pos c, if_pos ⟨hqt, c⟩]
          · rw [if_neg c, if_neg (fun z => c z.2)]
        rw [ec]
        by_cases c : q < ty ∧ f q = 59
        · rw [if_pos c]
          dsimp only
          rw [if_pos rfl]
          obtain ⟨R1, rfl⟩ : ∃ R1, R = R1 + 1 := ⟨R - 1, by omega⟩
          obtain ⟨he2, er2, cm2, cn2, i1, i2⟩ := ih (pc + 1) (q + 1) po1 _ _ _ cm' R1 (by omega) (by omega) (by omega) (by omega) hrel2
          have eP : x_pa_19 ip ty (R1 + 1) q (-1) cm' (pc + 1) = x_pa_19 ip ty R1 he2 er2 cm2 cn2 := by
            simp only [x_pa_19]
            rw [if_neg (by decide), if_pos (hsg.mpr c), i1]
          rw [eP]
          exact i2
        · rw [if_neg c]
          dsimp only
          rw [if_neg Bool.false_ne_true, z_pa1 (fun z => c (hsg.mp z))]
          have eF : z_fin ty (q, -1, cm', pc + 1) = (q, nI q, cm', pc + 1) := by
            unfold z_fin
            rw [if_neg (show ¬ (0 : Int32) ≤ -1 by decide), if_neg (show ¬ ty ≤ q by omega)]
          rw [eF]
          exact Or.inr ⟨rfl, by show q ≤ 60; omega, rfl⟩
    · refine ⟨he, nI q, cm', pc + 1, hM, ?_⟩
      obtain ⟨po1, oa1, ob1, hC1⟩ := hC po vb oa ob
      rw [u, hC1]
      dsimp only
      rw [if_neg Bool.false_ne_true]
      have h0 : (0 : Int32) ≤ nI q := nI_pos' (by omega)
      rw [z_pa0 h0]
      have eF : z_fin ty (he, nI q, cm', pc + 1) = (he, nI q, cm', pc + 1) := by
        unfold z_fin
        rw [if_pos h0]
      rw [eF]
      exact Or.inr ⟨rfl, by show q ≤ 60; omega, rfl⟩
/-- both sides read a program alike -/
theorem z_read (hT : ∀ j, j < ty → f j = ip j) (h60 : ty ≤ 60) (po : Int32) (vb oa ob cm : Nat → Int32) :
    ((x_pr_read po vb oa ob ty f).1 = true ∧ (x_mo_parse ip ty cm).2.1 = -1 ∧ (x_pr_read po vb oa ob ty f).2.1 = (x_mo_parse ip ty cm).2.2.2 ∧ (x_pr_read po vb oa ob ty f).2.1 ≤ 15 ∧ ∀ i, i < (x_pr_read po vb oa ob ty f).2.1 → z_rel i (x_pr_read po vb oa ob ty f).2.2.2.2.1 (x_pr_read po vb oa ob ty f).2.2.2.2.2.1 (x_pr_read po vb oa ob ty f).2.2.2.2.2.2 (x_mo_parse ip ty cm).2.2.1) ∨
    ((x_pr_read po vb oa ob ty f).1 = false ∧ (x_pr_read po vb oa ob ty f).2.2.1 ≤ 60 ∧ (x_mo_parse ip ty cm).2.1 = nI (x_pr_read po vb oa ob ty f).2.2.1) := by
  obtain ⟨he, er, cm1, cn1, h1, h2⟩ := z_readL hT h60 16 0 0 po vb oa ob cm (61 + ty) (by omega) (by omega) (by omega) (by omega) (fun i hi => absurd hi (Nat.not_lt_zero i))
  have eP : x_mo_parse ip ty cm = z_fin ty (x_pa_19 ip ty (61 + ty) he er cm1 cn1) := by
    unfold x_mo_parse
    rw [h1]
    dsimp only
    generalize x_pa_19 ip ty (61 + ty) he er cm1 cn1 = x
    obtain ⟨a, b, c, d⟩ := x
    rfl
  rw [eP]
  exact h2
end READ