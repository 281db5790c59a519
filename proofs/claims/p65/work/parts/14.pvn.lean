/-! rules with natural indices; posts; blocks of cells -/
section PVN
variable {g : q_G} {M : q_M} {d mc ms : Nat} {Q : q_O → q_H → Prop} {kc ks pc : Nat} {ls st : List Value} {h : q_H}
theorem q_ialdN {i n j : Nat} {f : Nat → Int32} (hd : decode M.2.1 pc = .ok (.iaload, 1)) (hc : h.2 i = some (.inl (0, n, .inl f))) (hj : j < n) (hn : n < 2 ^ 31) (kk : q_W g M d mc ms Q kc ks (pc + 1) ls (.int (f j) :: st) h) : q_W g M d mc ms Q kc ks pc ls (.int (nI j) :: .ref i :: st) h :=
  q_iald hd hc (vp_in_nI hj hn) (by rw [nI_clamp (Nat.lt_trans hj hn)]; exact kk)
theorem q_zaldN {i n j : Nat} {f : Nat → Int32} (hd : decode M.2.1 pc = .ok (.baload, 1)) (hc : h.2 i = some (.inl (1, n, .inl f))) (hj : j < n) (hn : n < 2 ^ 31) (kk : q_W g M d mc ms Q kc ks (pc + 1) ls (.int (f j) :: st) h) : q_W g M d mc ms Q kc ks pc ls (.int (nI j) :: .ref i :: st) h :=
  q_zald hd hc (vp_in_nI hj hn) (by rw [nI_clamp (Nat.lt_trans hj hn)]; exact kk)
theorem q_baldN {i n j : Nat} {f : Nat → Int32} (hd : decode M.2.1 pc = .ok (.baload, 1)) (hc : h.2 i = some (.inl (3, n, .inl f))) (hj : j < n) (hn : n < 2 ^ 31) (kk : q_W g M d mc ms Q kc ks (pc + 1) ls (.int (f j) :: st) h) : q_W g M d mc ms Q kc ks pc ls (.int (nI j) :: .ref i :: st) h :=
  q_bald hd hc (vp_in_nI hj hn) (by rw [nI_clamp (Nat.lt_trans hj hn)]; exact kk)
theorem q_iastN {i n j : Nat} {f : Nat → Int32} {x : Int32} (hd : decode M.2.1 pc = .ok (.iastore, 1)) (hc : h.2 i = some (.inl (0, n, .inl f))) (hj : j < n) (hn : n < 2 ^ 31) (kk : q_W g M d mc ms Q kc ks (pc + 1) ls st (q_set h i (.inl (0, n, .inl (upd f j x))))) : q_W g M d mc ms Q kc ks pc ls (.int x :: .int (nI j) :: .ref i :: st) h :=
  q_iast hd hc (vp_in_nI hj hn) (by rw [nI_clamp (Nat.lt_trans hj hn)]; exact kk)
theorem q_zastN {i n j : Nat} {f : Nat → Int32} {x : Int32} (hx : x = 0 ∨ x = 1) (hd : decode M.2.1 pc = .ok (.bastore, 1)) (hc : h.2 i = some (.inl (1, n, .inl f))) (hj : j < n) (hn : n < 2 ^ 31) (kk : q_W g M d mc ms Q kc ks (pc + 1) ls st (q_set h i (.inl (1, n, .inl (upd f j x))))) : q_W g M d mc ms Q kc ks pc ls (.int x :: .int (nI j) :: .ref i :: st) h :=
  q_zast hd hc (vp_in_nI hj hn) (by
    rw [nI_clamp (Nat.lt_trans hj hn), show vp_nar .boolean x = x by rcases hx with rfl | rfl <;> rfl]
    exact kk)
/-- returns v with the heap h -/
def q_ret (v : Option Value) (h : q_H) : q_O → q_H → Prop := fun o h1 => o = .inl v ∧ h1 = h
/-- throws E with the heap h -/
def q_thr (E : String) (h : q_H) : q_O → q_H → Prop := fun o h1 => o = .inr E ∧ h1 = h
/-- returns v; what is known of the heap -/
def q_retP (v : Option Value) (B : q_H → Prop) : q_O → q_H → Prop := fun o h1 => o = .inl v ∧ B h1
theorem q_kR {P : Option Value → q_H → Prop} {v : Option Value} {h' : q_H} (k : P v h') : ∀ v1 h1, q_ret v h' (.inl v1) h1 → P v1 h1 := by
  rintro _ _ ⟨e, rfl⟩
  cases e
  exact k
theorem q_xR {P : String → q_H → Prop} {v : Option Value} {h' : q_H} : ∀ E h1, q_ret v h' (.inr E) h1 → P E h1 := by
  rintro _ _ ⟨e, -⟩
  cases e
theorem q_kT {P : Option Value → q_H → Prop} {E : String} {h' : q_H} : ∀ v1 h1, q_thr E h' (.inl v1) h1 → P v1 h1 := by
  rintro _ _ ⟨e, -⟩
  cases e
theorem q_xT {P : String → q_H → Prop} {E : String} {h' : q_H} (k : P E h') : ∀ E1 h1, q_thr E h' (.inr E1) h1 → P E1 h1 := by
  rintro _ _ ⟨e, rfl⟩
  cases e
  exact k
theorem q_kP {P : Option Value → q_H → Prop} {v : Option Value} {B : q_H → Prop} (k : ∀ h1, B h1 → P v h1) : ∀ v1 h1, q_retP v B (.inl v1) h1 → P v1 h1 := by
  rintro _ h1 ⟨e, b⟩
  cases e
  exact k h1 b
theorem q_xP {P : String → q_H → Prop} {v : Option Value} {B : q_H → Prop} : ∀ E h1, q_retP v B (.inr E) h1 → P E h1 := by
  rintro _ _ ⟨e, -⟩
  cases e
/-- outside [a, a + k) nothing that was there has changed -/
def q_same (h h1 : q_H) (a k : Nat) : Prop := h.1 ≤ h1.1 ∧ ∀ i, i < h.1 → (i < a ∨ a + k ≤ i) → h1.2 i = h.2 i
theorem q_same.rfl' {h : q_H} {a k : Nat} : q_same h h a k := ⟨Nat.le_refl _, fun _ _ _ => rfl⟩
theorem q_same.trans {h h1 h2 : q_H} {a k : Nat} (p : q_same h h1 a k) (q : q_same h1 h2 a k) : q_same h h2 a k := ⟨Nat.le_trans p.1 q.1, fun i hi hx => (q.2 i (Nat.lt_of_lt_of_le hi p.1) hx).trans (p.2 i hi hx)⟩
theorem q_same.wide {h h1 : q_H} {a k b m : Nat} (p : q_same h h1 a k) (h1' : b ≤ a) (h2 : a + k ≤ b + m) : q_same h h1 b m := ⟨p.1, fun i hi hx => p.2 i hi (by omega)⟩
theorem q_same.set {h : q_H} {a k i : Nat} {c : (Nat × vp_A) ⊕ (Nat × List Value)} (h1 : a ≤ i) (h2 : i < a + k) : q_same h (q_set h i c) a k := ⟨Nat.le_refl _, fun j hj hx => by simp only [q_set]; rw [if_neg (by omega)]⟩
theorem q_same.skip {h : q_H} {a k : Nat} : q_same h (q_skip h) a k := ⟨Nat.le_succ _, fun _ _ _ => rfl⟩
theorem q_set_eq {h : q_H} {i : Nat} {c : (Nat × vp_A) ⊕ (Nat × List Value)} : (q_set h i c).2 i = some c := by simp [q_set]
theorem q_set_ne {h : q_H} {i j : Nat} {c : (Nat × vp_A) ⊕ (Nat × List Value)} (hj : j ≠ i) : (q_set h i c).2 j = h.2 j := by simp [q_set, hj]
/-- a State at a: n arguments, mn moves; rows 0 ids, 1 weights, 2 ages, 3 targets, 4 attackers, 5 moves; row 6: next id, day, ended, won, broken off -/
def z_St (h : q_H) (a n mn : Nat) (f : Nat → Nat → Int32) : Prop :=
  q_R0 ≤ a ∧ a + 8 ≤ h.1 ∧ n ≤ 8 ∧ mn ≤ 12 ∧
  h.2 a = some (.inr (10, [.ref (a + 1), .ref (a + 2), .ref (a + 3), .ref (a + 4), .ref (a + 5), .ref (a + 6), .int (nI n), .int (f 6 0), .int (f 6 1)])) ∧
  h.2 (a + 1) = some (.inl (0, 8, .inl (f 0))) ∧ h.2 (a + 2) = some (.inl (0, 8, .inl (f 1))) ∧ h.2 (a + 3) = some (.inl (0, 8, .inl (f 2))) ∧
  h.2 (a + 4) = some (.inl (0, 8, .inl (f 3))) ∧ h.2 (a + 5) = some (.inl (0, 8, .inl (f 4))) ∧
  h.2 (a + 6) = some (.inr (4, [.ref (a + 7), .int (nI mn), .int (f 6 2), .int (f 6 3), .int (f 6 4)])) ∧
  h.2 (a + 7) = some (.inl (0, 12, .inl (f 5)))
theorem z_St.keep {h h1 : q_H} {a n mn b k : Nat} {f : Nat → Nat → Int32} (s : z_St h a n mn f) (q : q_same h h1 b k) (hx : a + 8 ≤ b ∨ b + k ≤ a) : z_St h1 a n mn f := by
  obtain ⟨s0, s1, s2, s3, c0, c1, c2, c3, c4, c5, c6, c7⟩ := s
  refine ⟨s0, Nat.le_trans s1 q.1, s2, s3, ?_, ?_, ?_, ?_, ?_, ?_, ?_, ?_⟩ <;> rw [q.2 _ (by omega) (by omega)] <;> assumption
/-- the dialogue alone -/
def z_Dl (h : q_H) (a mn : Nat) (mv : Nat → Int32) (en wo br : Int32) : Prop :=
  q_R0 ≤ a ∧ a + 2 ≤ h.1 ∧ mn ≤ 12 ∧ h.2 a = some (.inr (4, [.ref (a + 1), .int (nI mn), .int en, .int wo, .int br])) ∧ h.2 (a + 1) = some (.inl (0, 12, .inl mv))
theorem z_St.dl {h : q_H} {a n mn : Nat} {f : Nat → Nat → Int32} (s : z_St h a n mn f) : z_Dl h (a + 6) mn (f 5) (f 6 2) (f 6 3) (f 6 4) := by
  obtain ⟨s0, s1, s2, s3, c0, c1, c2, c3, c4, c5, c6, c7⟩ := s
  exact ⟨by omega, by omega, s3, c6, c7⟩
end PVN
