theorem z_cn_pos {x : Int32} {n j : Nat} (hj : j < n) (h : z_bi x j = true) : 0 < z_cn x n := by
  have h0 : z_cn 0 n < z_cn x n := z_cn_lt n (fun i _ q => by rw [z_bi_0] at q; cases q) ⟨j, hj, z_bi_0 j, h⟩
  omega
theorem z_or0 {a b : Int32} (h : a ||| b = 0) : a = 0 ∧ b = 0 := by
  have g : ∀ j, (z_bi a j || z_bi b j) = false := fun j => by rw [← z_bi_or, h, z_bi_0]
  refine ⟨z_bi_ext fun j _ => ?_, z_bi_ext fun j _ => ?_⟩
  · have q := g j
    rw [z_bi_0]
    cases e : z_bi a j with
    | false => rfl
    | true => rw [e] at q; cases q
  · have q := g j
    rw [z_bi_0]
    cases e : z_bi b j with
    | false => rfl
    | true => rw [e, Bool.or_true] at q; cases q
/-- what is new in a round, as the class takes it, is what the reference finds -/
theorem z_fresh {n : Nat} {ac rj f b : Int32} (hf : z_sub n (ac ||| rj) f) (hb : z_sub n ((ac ||| f) ||| rj) b) : ((ac ||| f) ||| (rj ||| b)) &&& ((ac ||| rj) ^^^ (-1 : Int32)) = f ||| b := by
  apply z_bi_ext
  intro j hj
  have h1 := hf j hj
  have h2 := hb j hj
  simp only [z_bi_or] at h1 h2
  rw [z_bi_and, z_bi_not _ hj]
  simp only [z_bi_or]
  cases e1 : z_bi f j <;> cases e2 : z_bi b j <;> cases e3 : z_bi ac j <;> cases e4 : z_bi rj j <;> simp_all
/-- one round of the class -/
theorem z_give1 {al att : Nat → Int32} {n : Nat} (hn : n ≤ 8) (hA : ∀ j, j < n → x_mo_attackers al n j = att j) {r k : Nat} {ac rj f b : Int32} {co : Nat → Int32} (ef : x_mo_labels_7 al ac rj n n 0 0 = f) (eb : x_mo_labels_77 al ac rj n f n 0 0 = b) : x_lb_give_14 n att (r + 1) k 1 ac rj co = x_lb_give_14 n att r (k + 1) (if f ||| b = 0 then 0 else 1) (ac ||| f) (rj ||| b) (x_lb_noteRound co (f ||| b) (nI k)) := by
  have h7 := z_lab7 (al := al) (ac := ac) (rj := rj) hn n 0 0 (by omega) z_sub0
  have h77 := z_lab77 (al := al) (ac := ac) (rj := rj) (a := f) hn n 0 0 (by omega) z_sub0
  rw [ef] at h7
  rw [eb] at h77
  have e1 : x_lb_findAcceptable ac rj n att = f := (z_fa7 hn hA n 0 0 (by omega)).trans ef
  have e2 : x_lb_findRejectable (ac ||| f) rj n att = b := (z_fr77 hn hA n 0 0 (by omega)).trans eb
  have e3 := z_fresh h7 h77
  have u : x_lb_give_14 n att (r + 1) k 1 ac rj co = (let v4 := x_lb_findRejectable (ac ||| (x_lb_findAcceptable ac rj n att)) rj n att; (let y7_ro := x_lb_noteRound co (((ac ||| (x_lb_findAcceptable ac rj n att)) ||| (rj ||| v4)) &&& ((ac ||| rj) ^^^ (-1 : Int32))) (nI (k)); (if (((ac ||| (x_lb_findAcceptable ac rj n att)) ||| (rj ||| v4)) &&& ((ac ||| rj) ^^^ (-1 : Int32))) = (0) then x_lb_give_14 n att r (k + 1) 0 (ac ||| (x_lb_findAcceptable ac rj n att)) (rj ||| v4) y7_ro else x_lb_give_14 n att r (k + 1) 1 (ac ||| (x_lb_findAcceptable ac rj n att)) (rj ||| v4) y7_ro))) := rfl
  rw [u, e1]
  dsimp only
  rw [e2, e3]
  split <;> rfl
theorem z_give_0 {n : Nat} {att : Nat → Int32} {k : Nat} {ac rj : Int32} {co : Nat → Int32} : ∀ r, x_lb_give_14 n att r k 0 ac rj co = (ac, rj, co) := by
  intro r
  cases r <;> rfl
def z_GV (al att : Nat → Int32) (n r r' k : Nat) (ac rj : Int32) (co ro : Nat → Int32) : Prop :=
    (x_lb_give_14 n att r k 1 ac rj co).1 = (x_la_12 al n r' k ac rj ro).1 ∧ (x_lb_give_14 n att r k 1 ac rj co).2.1 = (x_la_12 al n r' k ac rj ro).2.1 ∧ z_sub n 0 ((x_la_12 al n r' k ac rj ro).1 ||| (x_la_12 al n r' k ac rj ro).2.1) ∧
    ∀ j, j < n → z_bi ((x_la_12 al n r' k ac rj ro).1 ||| (x_la_12 al n r' k ac rj ro).2.1) j = true → (x_lb_give_14 n att r k 1 ac rj co).2.2 j = (x_la_12 al n r' k ac rj ro).2.2 j
/-- labels of both sides, from any round on -/
theorem z_give {al att : Nat → Int32} {n : Nat} (hn : n ≤ 8) (hA : ∀ j, j < n → x_mo_attackers al n j = att j) : ∀ m r r' k ac rj co ro, z_sub n 0 (ac ||| rj) → n ≤ m + z_cn (ac ||| rj) n → m + 1 ≤ r' → m ≤ r → (∀ j, j < n → z_bi (ac ||| rj) j = true → co j = ro j) → z_GV al att n r r' k ac rj co ro := by
  intro m
  induction m using Nat.strongRecOn with
  | _ m ih =>
    intro r r' k ac rj co ro hs hm hr' hr hro
    obtain ⟨r0', rfl⟩ : ∃ r0', r' = r0' + 1 := ⟨r' - 1, by omega⟩
    have h7 := z_lab7 (al := al) (ac := ac) (rj := rj) hn n 0 0 (by omega) z_sub0
    have h77 := z_lab77 (al := al) (ac := ac) (rj := rj) (a := x_mo_labels_7 al ac rj n n 0 0) hn n 0 0 (by omega) z_sub0
    obtain ⟨f, ef⟩ : ∃ f, x_mo_labels_7 al ac rj n n 0 0 = f := ⟨_, rfl⟩
    rw [ef] at h7 h77
    obtain ⟨b, eb⟩ : ∃ b, x_mo_labels_77 al ac rj n f n 0 0 = b := ⟨_, rfl⟩
    rw [eb] at h77
    have el : x_mo_labels al ac rj ro n (nI k) = (if f ||| b = 0 then (false, ac ||| f, rj ||| b, x_mo_labels_145 (nI k) f b n 0 ro) else (true, ac ||| f, rj ||| b, x_mo_labels_145 (nI k) f b n 0 ro)) := by
      unfold x_mo_labels
      rw [ef]
      dsimp only
      rw [eb]
    have eL : x_la_12 al n (r0' + 1) k ac rj ro = (if f ||| b = 0 then (ac ||| f, rj ||| b, x_mo_labels_145 (nI k) f b n 0 ro) else x_la_12 al n r0' (k + 1) (ac ||| f) (rj ||| b) (x_mo_labels_145 (nI k) f b n 0 ro)) := by
      have u : x_la_12 al n (r0' + 1) k ac rj ro = (match x_mo_labels al ac rj ro n (nI k) with | (v, ac', rj', ro') => if v then x_la_12 al n r0' (k + 1) ac' rj' ro' else (ac', rj', ro')) := rfl
      rw [u, el]
      by_cases e : f ||| b = 0
      · rw [if_pos e, if_pos e]
        rfl
      · rw [if_neg e, if_neg e]
        rfl
    have hn1 : ∀ j, j < n → x_lb_noteRound co (f ||| b) (nI k) j = (if z_bi (f ||| b) j = true then nI k else co j) := fun j hj => by
      have q := z_note (xs := f ||| b) (xr := nI k) 8 0 co j (by omega)
      refine q.trans ?_
      by_cases c : z_bi (f ||| b) j = true
      · rw [if_pos ⟨by omega, by omega, c⟩, if_pos c]
      · rw [if_neg (fun z => c z.2.2), if_neg c]
    have hn2 : ∀ j, j < n → x_mo_labels_145 (nI k) f b n 0 ro j = (if z_bi (f ||| b) j = true then nI k else ro j) := fun j hj => by
      rw [z_note2 n 0 ro j (by omega)]
      by_cases c : z_bi (f ||| b) j = true
      · rw [if_pos ⟨by omega, by omega, c⟩, if_pos c]
      · rw [if_neg (fun z => c z.2.2), if_neg c]
    have hs2 : z_sub n 0 ((ac ||| f) ||| (rj ||| b)) := fun j hj q => by
      refine ⟨?_, z_bi_0 j⟩
      simp only [z_bi_or, Bool.or_eq_true] at q
      have h0 := fun c => (hs j hj c).1
      simp only [z_bi_or, Bool.or_eq_true] at h0
      rcases q with (q | q) | q | q
      · exact h0 (Or.inl q)
      · exact (h7 j hj q).1
      · exact h0 (Or.inr q)
      · exact (h77 j hj q).1
    have hro2 : ∀ j, j < n → z_bi ((ac ||| f) ||| (rj ||| b)) j = true → x_lb_noteRound co (f ||| b) (nI k) j = x_mo_labels_145 (nI k) f b n 0 ro j := fun j hj q => by
      rw [hn1 j hj, hn2 j hj]
      by_cases c : z_bi (f ||| b) j = true
      · rw [if_pos c, if_pos c]
      · rw [if_neg c, if_neg c]
        refine hro j hj ?_
        simp only [z_bi_or, Bool.or_eq_true] at q c ⊢
        rcases q with (q | q) | q | q
        · exact Or.inl q
        · exact absurd (Or.inl q) c
        · exact Or.inr q
        · exact absurd (Or.inr q) c
    unfold z_GV
    rw [eL]
    by_cases e : f ||| b = 0
    · rw [if_pos e]
      obtain ⟨rfl, rfl⟩ := z_or0 e
      cases r with
      | zero =>
        have eC : x_lb_give_14 n att 0 k 1 ac rj co = (ac, rj, co) := rfl
        rw [eC]
        refine ⟨?_, ?_, hs2, fun j hj q => ?_⟩
        · exact (Int32.or_zero).symm
        · exact (Int32.or_zero).symm
        · show co j = x_mo_labels_145 (nI k) 0 0 n 0 ro j
          rw [← hro2 j hj q, hn1 j hj, if_neg (by rw [e, z_bi_0]; exact Bool.false_ne_true)]
      | succ r =>
        rw [z_give1 hn hA ef eb, if_pos e, z_give_0]
        exact ⟨rfl, rfl, hs2, hro2⟩
    · rw [if_neg e]
      have hlt : z_cn (ac ||| rj) n < z_cn ((ac ||| f) ||| (rj ||| b)) n := by
        obtain ⟨j, hj, hb⟩ := z_ne0 e
        refine z_cn_lt n (fun i hi hx => ?_) ?_
        · simp only [z_bi_or, Bool.or_eq_true] at hx ⊢
          rcases hx with q | q
          · exact Or.inl (Or.inl q)
          · exact Or.inr (Or.inl q)
        · simp only [z_bi_or, Bool.or_eq_true] at hb
          rcases hb with q | q
          · obtain ⟨h1, h2⟩ := h7 j hj q
            refine ⟨j, h1, h2, ?_⟩
            simp only [z_bi_or, Bool.or_eq_true]
            exact Or.inl (Or.inr q)
          · obtain ⟨h1, h2⟩ := h77 j hj q
            refine ⟨j, h1, ?_, ?_⟩
            · simp only [z_bi_or, Bool.or_eq_false_iff] at h2 ⊢
              exact ⟨h2.1.1, h2.2⟩
            · simp only [z_bi_or, Bool.or_eq_true]
              exact Or.inr (Or.inr q)
      have hle := z_cn_le ((ac ||| f) ||| (rj ||| b)) n
      obtain ⟨r1, rfl⟩ : ∃ r1, r = r1 + 1 := ⟨r - 1, by omega⟩
      rw [z_give1 hn hA ef eb, if_neg e]
      exact ih (m - 1) (by omega) r1 r0' (k + 1) (ac ||| f) (rj ||| b) _ _ hs2 (by omega) (by omega) (by omega) hro2
/-- the labels of the two sides -/
theorem z_labels {B : Nat} {al : Nat → Int32} {s : ZS} (W : z_wfB B s) (R : z_R al 0 s) (co ro : Nat → Int32) : (x_lb_give co s.1 s.2.2.2.2.2.1).1 = (x_mo_labelsAll al s.1 ro).1 ∧ (x_lb_give co s.1 s.2.2.2.2.2.1).2.1 = (x_mo_labelsAll al s.1 ro).2.1 ∧ z_sub s.1 0 ((x_mo_labelsAll al s.1 ro).1 ||| (x_mo_labelsAll al s.1 ro).2.1) ∧
    ∀ j, j < s.1 → z_bi ((x_mo_labelsAll al s.1 ro).1 ||| (x_mo_labelsAll al s.1 ro).2.1) j = true → (x_lb_give co s.1 s.2.2.2.2.2.1).2.2 j = (x_mo_labelsAll al s.1 ro).2.2 j := by
  have h := z_give W.1 (fun j hj => z_att W R hj) s.1 8 (s.1 + 1) 1 0 0 co ro (fun j hj q => by rw [z_bi_or, z_bi_0] at q; cases q) (by omega) (by omega) W.1 (fun j hj q => by rw [z_bi_or, z_bi_0] at q; cases q)
  exact h
