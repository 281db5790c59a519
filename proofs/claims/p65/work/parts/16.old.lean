/-! old cells with natural numbers: the verbs (3..13), their patterns (14..24) and bytes (25..35), the digits' tables (36, 37) -/
section OLD
variable {g : q_G} {M : q_M} {d mc ms : Nat} {Q : q_O → q_H → Prop} {kc ks pc : Nat} {ls st : List Value} {h : q_H}
theorem q_R0e : q_R0 = 100 := rfl
theorem q_taldIN {i n j : Nat} {f : Nat → Value} (hi : i < q_R0) (hd : decode M.2.1 pc = .ok (.iaload, 1)) (hc : q_ar g i = some (.int, n, f)) (hj : j < n) (hn : n < 2 ^ 31) (kk : q_W g M d mc ms Q kc ks (pc + 1) ls (f j :: st) h) : q_W g M d mc ms Q kc ks pc ls (.int (nI j) :: .ref i :: st) h :=
  q_taldI hi hd hc (vp_in_nI hj hn) (by rw [nI_clamp (Nat.lt_trans hj hn)]; exact kk)
theorem q_taldBN {i n j : Nat} {f : Nat → Value} (hi : i < q_R0) (hd : decode M.2.1 pc = .ok (.baload, 1)) (hc : q_ar g i = some (.byte, n, f)) (hj : j < n) (hn : n < 2 ^ 31) (kk : q_W g M d mc ms Q kc ks (pc + 1) ls (f j :: st) h) : q_W g M d mc ms Q kc ks pc ls (.int (nI j) :: .ref i :: st) h :=
  q_taldB hi hd hc (vp_in_nI hj hn) (by rw [nI_clamp (Nat.lt_trans hj hn)]; exact kk)
theorem q_taldAN {i n j : Nat} {f : Nat → Value} {C : String} (hi : i < q_R0) (hd : decode M.2.1 pc = .ok (.aaload, 1)) (hc : q_ar g i = some (.object C, n, f)) (hj : j < n) (hn : n < 2 ^ 31) (kk : q_W g M d mc ms Q kc ks (pc + 1) ls (f j :: st) h) : q_W g M d mc ms Q kc ks pc ls (.int (nI j) :: .ref i :: st) h :=
  q_taldA hi hd hc (vp_in_nI hj hn) (by rw [nI_clamp (Nat.lt_trans hj hn)]; exact kk)
theorem q_arP {k : Nat} (hk : k < 11) : q_ar g (25 + k) = some (.byte, (q_pat k).length, fun j => .int ((q_pat k).getD j 0)) :=
  match k, hk with
  | 0, _ => rfl
  | 1, _ => rfl
  | 2, _ => rfl
  | 3, _ => rfl
  | 4, _ => rfl
  | 5, _ => rfl
  | 6, _ => rfl
  | 7, _ => rfl
  | 8, _ => rfl
  | 9, _ => rfl
  | 10, _ => rfl
theorem z_patlen (k : Nat) : (q_pat k).length ≤ 10 := by
  unfold q_pat
  split <;> decide
theorem q_taldP {k j : Nat} (hk : k < 11) (hd : decode M.2.1 pc = .ok (.baload, 1)) (hj : j < (q_pat k).length) (kk : q_W g M d mc ms Q kc ks (pc + 1) ls (.int ((q_pat k).getD j 0) :: st) h) : q_W g M d mc ms Q kc ks pc ls (.int (nI j) :: .ref (25 + k) :: st) h :=
  q_taldBN (by rw [q_R0e]; omega) hd (q_arP hk) hj (Nat.lt_of_le_of_lt (z_patlen k) (by decide)) kk
theorem q_tlenP {k : Nat} (hk : k < 11) (hd : decode M.2.1 pc = .ok (.arraylength, 1)) (kk : q_W g M d mc ms Q kc ks (pc + 1) ls (.int (nI (q_pat k).length) :: st) h) : q_W g M d mc ms Q kc ks pc ls (.ref (25 + k) :: st) h :=
  q_tlen (by rw [q_R0e]; omega) hd (q_arP hk) kk
theorem q_verbO {k : Nat} (hk : k < 11) : ∀ U : State, q_K g U → ∃ a : Nat, g.2.2.2.2.1 (3 + k) = .ref a ∧ va_O "ArgumentMap$Verb" a (q_A g) U U.heap := fun U hK => by
  obtain ⟨a, e, x, -⟩ := hK.2.2.2.2.2.2.2.2.1 k hk
  exact ⟨a, e, x⟩
theorem q_patO {k : Nat} (hk : k < 11) : ∀ U : State, q_K g U → ∃ a : Nat, g.2.2.2.2.1 (14 + k) = .ref a ∧ va_O "java/lang/String" a (q_A g) U U.heap := fun U hK => by
  obtain ⟨a, e, x, -⟩ := hK.2.2.2.2.2.2.2.2.2.1 k hk
  exact ⟨a, e, x⟩
theorem q_K.old {U : State} (hK : q_K g U) {x : Nat} (hx : 3 ≤ x ∧ x < 36) : q_isold g x := by
  refine ⟨by rw [q_R0e]; omega, ?_⟩
  by_cases h1 : x < 14
  · obtain ⟨a, e, -⟩ := hK.2.2.2.2.2.2.2.2.1 (x - 3) (by omega)
    rw [show 3 + (x - 3) = x by omega] at e
    exact ⟨a, e⟩
  · by_cases h2 : x < 25
    · obtain ⟨a, e, -⟩ := hK.2.2.2.2.2.2.2.2.2.1 (x - 14) (by omega)
      rw [show 14 + (x - 14) = x by omega] at e
      exact ⟨a, e⟩
    · have q := q_arP (g := g) (k := x - 25) (by omega)
      rw [show 25 + (x - 25) = x by omega] at q
      obtain ⟨a, e, -⟩ := hK.2.2.2.2.2.2.2.1 x _ _ _ q
      exact ⟨a, e⟩
theorem q_aload_nK {k : Fin 4} {x : Nat} (hx : 3 ≤ x ∧ x < 36) (hd : decode M.2.1 pc = .ok (.aload_n k, 1)) (hl : ls[(k : Nat)]? = some (.ref x)) (kk : q_W g M d mc ms Q kc ks (pc + 1) ls (.ref x :: st) h) : q_W g M d mc ms Q kc ks pc ls st h := fun p e s m args below meth c H locs mls X hR hS hL =>
  q_aload_nO (X.2.2.2.2.2.2.2.1.old hx) hd hl kk p e s m args below meth c H locs mls X hR hS hL
theorem q_aloadK {k : Nat} {x : Nat} (hx : 3 ≤ x ∧ x < 36) (hd : decode M.2.1 pc = .ok (.aload k, 2)) (hl : ls[k]? = some (.ref x)) (kk : q_W g M d mc ms Q kc ks (pc + 2) ls (.ref x :: st) h) : q_W g M d mc ms Q kc ks pc ls st h := fun p e s m args below meth c H locs mls X hR hS hL =>
  q_aloadO (X.2.2.2.2.2.2.2.1.old hx) hd hl kk p e s m args below meth c H locs mls X hR hS hL
theorem q_aaldN {i n j r : Nat} {f : Nat → Option Nat} (hd : decode M.2.1 pc = .ok (.aaload, 1)) (hc : h.2 i = some (.inl (6, n, .inr (.inr (.inr (.inr f)))))) (hj : j < n) (hn : n < 2 ^ 31) (hf : f j = some r) (hr : 100 ≤ r) (kk : q_W g M d mc ms Q kc ks (pc + 1) ls (.ref r :: st) h) : q_W g M d mc ms Q kc ks pc ls (.int (nI j) :: .ref i :: st) h :=
  q_aald hd hc (vp_in_nI hj hn) (by rw [nI_clamp (Nat.lt_trans hj hn)]; exact hf) hr kk
end OLD
