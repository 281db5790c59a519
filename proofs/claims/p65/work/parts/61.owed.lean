/-- the number of attacks -/
def z_ct (tg : Nat → Int32) : Nat → Nat
  | 0 => 0
  | n + 1 => z_ct tg n + z_cn (tg n) 8
/-- a state within its bounds, its next id at most B -/
def z_wfB (B : Nat) (s : ZS) : Prop :=
  s.1 ≤ 8 ∧ s.2.2.2.2.2.2.2.2.1 ≤ 12 ∧ (∃ k, k ≤ B ∧ s.2.2.2.2.2.2.1 = nI k ∧ ∀ j, j < s.1 → ∃ m, m < k ∧ s.2.1 j = nI m) ∧
  (∀ i j, i < j → j < s.1 → s.2.1 i ≠ s.2.1 j) ∧
  (∀ j, j < s.1 → ∃ m, 1 ≤ m ∧ m ≤ 9 ∧ s.2.2.1 j = nI m) ∧ (∀ j, j < s.1 → ∃ m, m ≤ 90 ∧ s.2.2.2.1 j = nI m) ∧
  (∀ j, j < s.1 → ∃ m, m < 2 ^ s.1 ∧ s.2.2.2.2.1 j = nI m) ∧
  (∀ j, j < s.1 → s.2.2.2.2.2.1 j = x_st_findAttackers_17 s.2.2.1 s.2.2.2.1 s.2.2.2.2.1 j s.1 0 0) ∧
  (∀ p, p < s.2.2.2.2.2.2.2.2.1 → ∃ j, j < s.1 ∧ s.2.2.2.2.2.2.2.2.2.1 p = s.2.1 j) ∧ z_ct s.2.2.2.2.1 s.1 ≤ 20
theorem z_wfB.mono {B C : Nat} {s : ZS} (w : z_wfB B s) (h : B ≤ C) : z_wfB C s := by
  obtain ⟨a, b, ⟨k, k1, k2⟩, r⟩ := w
  exact ⟨a, b, ⟨k, Nat.le_trans k1 h, k2⟩, r⟩
/-- a state within its bounds, after t calls -/
def z_wf (t : Nat) (s : ZS) : Prop := z_wfB (15 * t) s
/-- the class's state and the reference's, after t calls -/
def z_J (t : Nat) (hs : Bool) (se : Int32) (sf : Int32) (s : ZS) (s1 : ZS) (nx : Nat) (kp : Nat) (rw : Nat → ZS) (ic : Nat) (fi : Nat → Int32) (lc : Nat) (fl : Nat → Int32) (al : Nat → Int32) (cg : Nat) (sv : Bool) (ad : Nat → Int32) (ln : Nat → Int32) (lz : Nat) (ip : Nat → Int32) (ty : Nat) (ea : Int32) (fa : Int32) : Prop :=
  z_wf t s ∧ z_R al 0 s ∧ hs = sv ∧ (hs = true → z_wf t s1 ∧ z_R al 459 s1) ∧
  kp = cg ∧ kp ≤ 8 ∧ nx ≤ 8 ∧ (∀ i, i < kp → z_wf t (rw ((nx + 8 - i) % 9)) ∧ z_R al (51 * (kp - i)) (rw ((nx + 8 - i) % 9))) ∧
  se = ea ∧ sf = fa ∧ z_01 ad ∧ lc = lz ∧ lz ≤ 160 ∧ (∀ j, j < lz → ∃ m, m < 128 ∧ ln j = nI m ∧ fl j = nI m) ∧
  ic = ty ∧ ty ≤ 60 ∧ ∀ j, j < ty → ∃ m, 32 ≤ m ∧ m < 127 ∧ ip j = nI m ∧ fi j = nI m
/-- what a call answers: an exception of the list with its number, or a value -/
def z_ag : List (String × Int32) → q_O → Int32 → Value → Prop
  | [], o, t, v => t = 0 ∧ o = .inl (some v)
  | (E, c) :: r, o, t, v => (t = c ∧ o = .inr E) ∨ z_ag r o t v
theorem z_J.n0 {t : Nat} {hs : Bool} {se : Int32} {sf : Int32} {s : ZS} {s1 : ZS} {nx : Nat} {kp : Nat} {rw : Nat → ZS} {ic : Nat} {fi : Nat → Int32} {lc : Nat} {fl : Nat → Int32} {al : Nat → Int32} {cg : Nat} {sv : Bool} {ad : Nat → Int32} {ln : Nat → Int32} {lz : Nat} {ip : Nat → Int32} {ty : Nat} {ea : Int32} {fa : Int32} (J : z_J t hs se sf s s1 nx kp rw ic fi lc fl al cg sv ad ln lz ip ty ea fa) : al 0 = nI s.1 ∧ s.1 ≤ 8 ∧ al 3 = nI s.2.2.2.2.2.2.2.2.1 ∧ s.2.2.2.2.2.2.2.2.1 ≤ 12 := by
  obtain ⟨w, r, -⟩ := J
  exact ⟨by simpa using r.1, w.1, by simpa using r.2.2.2.1, w.2.1⟩
