theorem z_fill {xv : Int32} : ∀ r k f i, x_J7_fill_5 xv r k f i = if k ≤ i ∧ i < k + r then xv else f i := by
  intro r
  induction r with
  | zero =>
    intro k f i
    rw [if_neg (by omega)]
    rfl
  | succ r ih =>
    intro k f i
    show x_J7_fill_5 xv r (k + 1) (upd f k xv) i = _
    rw [ih]
    by_cases e : i = k
    · subst e
      rw [if_neg (by omega), upd_eq, if_pos (by omega)]
    · rw [upd_ne e]
      by_cases l : k + 1 ≤ i ∧ i < k + 1 + r
      · rw [if_pos l, if_pos (by omega)]
      · rw [if_neg l, if_neg (by omega)]
theorem z_cn1 : ∀ v, v < 8 → z_cn (nI (2 ^ v)) 8 = 1 := by decide +kernel
/-- the game tells what the labels tell -/
theorem z_game {B : Nat} {al : Nat → Int32} {s : ZS} (W : z_wfB B s) (R : z_R al 0 s) (ro won lost : Nat → Int32) {v : Nat} (hv : v < s.1) : (x_ga_isWonByProponent won lost s.2.2.2.2.2.1 v).1 = z_bi (x_mo_labelsAll al s.1 ro).1 v := by
  have h8 := W.1
  obtain ⟨⟨k, h1, h2, rk, rr, h3, h4⟩, h5⟩ := z_labAll W R ro
  have hmem : z_mem (x_mo_labelsAll al s.1 ro).1 rk (x_J7_fill won 0) (x_J7_fill lost 0) := by
    refine ⟨fun m j hm hj q => ?_, fun m j hm hj q => ?_⟩
    · have e : x_J7_fill won 0 m = 0 := by
        refine (z_fill (xv := 0) 256 0 won m).trans ?_
        rw [if_pos (by omega)]
      rw [e, z_has_bt _ (by omega), z_bi_0] at q
      cases q
    · have e : x_J7_fill lost 0 m = 0 := by
        refine (z_fill (xv := 0) 256 0 lost m).trans ?_
        rw [if_pos (by omega)]
      rw [e, z_has_bt _ (by omega), z_bi_0] at q
      cases q
  have H := z_hold (f := s.2.2.2.2.2.1) h8 (fun a ha b hb q => z_attlt W ha hb q) h1 (fun j hj q => (h3 j hj q).2) (fun j hj q => (h4 j hj q).2) h5 7 v (2 ^ v) (x_J7_fill won 0) (x_J7_fill lost 0) hv (Nat.lt_of_lt_of_le (Nat.pow_lt_pow_right (by omega) (by omega : v < 8)) (by decide)) (by rw [z_cn1 v (by omega)]) hmem
  obtain ⟨-, H1, H2⟩ := H
  have u : (x_ga_isWonByProponent won lost s.2.2.2.2.2.1 v).1 = (x_hold s.2.2.2.2.2.1 8 v (2 ^ v) (x_J7_fill won 0) (x_J7_fill lost 0)).1 := rfl
  rw [u]
  cases e : (x_hold s.2.2.2.2.2.1 8 v (2 ^ v) (x_J7_fill won 0) (x_J7_fill lost 0)).1 with
  | true => exact (H1 e).symm
  | false =>
    cases e2 : z_bi (x_mo_labelsAll al s.1 ro).1 v with
    | false => rfl
    | true =>
      refine absurd ⟨e2, fun i hi q _ => ?_⟩ (H2 e)
      rw [z_bior2 v (by omega) i hi, decide_eq_true_eq] at q
      rw [q]
      exact Nat.le_refl _
theorem z_lab97 (ac rj : Int32) {j : Nat} (hj : j < 32) : x_mo_labelOf ac rj j = 97 ↔ z_bi ac j = true := by
  unfold x_mo_labelOf
  have z1 := z_bit1 ac hj
  by_cases a : z_bi ac j = true
  · rw [if_pos (z1.mpr a)]
    exact ⟨fun _ => a, fun _ => rfl⟩
  · rw [if_neg (fun c => a (z1.mp c))]
    refine ⟨fun c => ?_, fun c => absurd c a⟩
    split at c <;> exact absurd c (by decide)
theorem z_accg {B : Nat} {al : Nat → Int32} {s : ZS} (W : z_wfB B s) (R : z_R al 0 s) (ro won lost : Nat → Int32) (xid : Int32) : (x_th s.1 al xid = false ∧ x_mo_isAcceptedByGame al ro s.1 xid = (false, 1, (x_mo_labelsAll al s.1 ro).1, (x_mo_labelsAll al s.1 ro).2.1, (x_mo_labelsAll al s.1 ro).2.2) ∧ (x_am_isAcceptedByGame s.1 s.2.1 s.2.2.2.2.2.1 won lost xid).1 = .inr "java/util/NoSuchElementException") ∨ ∃ b, x_mo_isAcceptedByGame al ro s.1 xid = (b, 0, (x_mo_labelsAll al s.1 ro).1, (x_mo_labelsAll al s.1 ro).2.1, (x_mo_labelsAll al s.1 ro).2.2) ∧ (x_am_isAcceptedByGame s.1 s.2.1 s.2.2.2.2.2.1 won lost xid).1 = .inl b := by
  have h8 := W.1
  unfold x_mo_isAcceptedByGame x_mo_status x_am_isAcceptedByGame
  rcases z_find R xid with ⟨a, b, c⟩ | ⟨v, hv, a, b, c, d⟩
  · rw [a, c]
    exact Or.inl ⟨rfl, rfl, rfl⟩
  · rw [a, b, c, Nat.add_sub_cancel]
    refine Or.inr ⟨z_bi (x_mo_labelsAll al s.1 ro).1 v, ?_, ?_⟩
    · dsimp only
      have z := z_lab97 (x_mo_labelsAll al s.1 ro).1 (x_mo_labelsAll al s.1 ro).2.1 (j := v) (by omega)
      cases e : z_bi (x_mo_labelsAll al s.1 ro).1 v with
      | true =>
        rw [if_pos rfl]
        dsimp only
        rw [if_pos (z.mpr e), if_pos rfl]
      | false =>
        rw [if_pos rfl]
        dsimp only
        rw [if_neg (fun c => by rw [z.mp c] at e; cases e), if_pos rfl]
    · show Sum.inl (x_ga_isWonByProponent won lost s.2.2.2.2.2.1 v).1 = _
      rw [z_game W R ro won lost hv]
