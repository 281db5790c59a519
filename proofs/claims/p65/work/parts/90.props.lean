/-! the class alone -/
/-- a table as the reference's would be -/
def zAl (s : ZS) : Nat → Int32 := fun i =>
  if i = 0 then nI s.1 else if i = 1 then s.2.2.2.2.2.2.1 else if i = 2 then s.2.2.2.2.2.2.2.1 else if i = 3 then nI s.2.2.2.2.2.2.2.2.1 else if i = 4 then s.2.2.2.2.2.2.2.2.2.2.1 else if i = 5 then s.2.2.2.2.2.2.2.2.2.2.2.1 else if i = 6 then s.2.2.2.2.2.2.2.2.2.2.2.2
  else if i < 31 then (if (i - 7) % 3 = 0 then s.2.1 ((i - 7) / 3) else if (i - 7) % 3 = 1 then s.2.2.1 ((i - 7) / 3) else s.2.2.2.1 ((i - 7) / 3))
  else if i < 39 then s.2.2.2.2.1 (i - 31) else s.2.2.2.2.2.2.2.2.2.1 (i - 39)
theorem z_RAl {s : ZS} (h8 : s.1 ≤ 8) : z_R (zAl s) 0 s := by
  refine ⟨rfl, rfl, rfl, rfl, rfl, rfl, rfl, fun j hj => ⟨?_, ?_, ?_, ?_⟩, fun p hp => ?_⟩
  · unfold zAl
    rw [if_neg (by omega), if_neg (by omega), if_neg (by omega), if_neg (by omega), if_neg (by omega), if_neg (by omega), if_neg (by omega), if_pos (by omega), if_pos (by omega)]
    exact congrArg _ (by omega)
  · unfold zAl
    rw [if_neg (by omega), if_neg (by omega), if_neg (by omega), if_neg (by omega), if_neg (by omega), if_neg (by omega), if_neg (by omega), if_pos (by omega), if_neg (by omega), if_pos (by omega)]
    exact congrArg _ (by omega)
  · unfold zAl
    rw [if_neg (by omega), if_neg (by omega), if_neg (by omega), if_neg (by omega), if_neg (by omega), if_neg (by omega), if_neg (by omega), if_pos (by omega), if_neg (by omega), if_neg (by omega)]
    exact congrArg _ (by omega)
  · unfold zAl
    rw [if_neg (by omega), if_neg (by omega), if_neg (by omega), if_neg (by omega), if_neg (by omega), if_neg (by omega), if_neg (by omega), if_neg (by omega), if_pos (by omega)]
    exact congrArg _ (by omega)
  · unfold zAl
    rw [if_neg (by omega), if_neg (by omega), if_neg (by omega), if_neg (by omega), if_neg (by omega), if_neg (by omega), if_neg (by omega), if_neg (by omega), if_neg (by omega)]
    exact congrArg _ (by omega)
/-- a state within its bounds, its ids in their order -/
def z_V (B : Nat) (s : ZS) : Prop := z_wfB B s ∧ ∀ i j, i < j → j < s.1 → ∃ a b, a < b ∧ s.2.1 i = nI a ∧ s.2.1 j = nI b ∧ b < B
theorem z_V.mono {B C : Nat} {s : ZS} (v : z_V B s) (h : B ≤ C) : z_V C s := ⟨v.1.mono h, fun i j h1 h2 => by
  obtain ⟨a, b, x, y, z, w⟩ := v.2 i j h1 h2
  exact ⟨a, b, x, y, z, by omega⟩⟩
theorem z_V.R {B : Nat} {s : ZS} (v : z_V B s) : z_R (zAl s) 0 s := z_RAl v.1.1
theorem z_V.id {B : Nat} {s : ZS} (v : z_V B s) {j : Nat} (hj : j < s.1) : ∃ m, m < B ∧ s.2.1 j = nI m := by
  obtain ⟨k, k1, -, k3⟩ := v.1.2.2.1
  obtain ⟨m, m1, m2⟩ := k3 j hj
  exact ⟨m, by omega, m2⟩
/-- the ids tell their places -/
theorem z_V.slot {B : Nat} {s : ZS} (V : z_V B s) {v : Nat} (hv : v < s.1) : x_st_slotOfKnown s.1 s.2.1 (s.2.1 v) = .inl v := by
  obtain ⟨w, hw, -, -, e, e2⟩ := z_there V.R (xid := s.2.1 v) ⟨v, hv, rfl⟩
  have hwv : w = v := by
    rcases Nat.lt_trichotomy w v with q | q | q
    · exact absurd e2 (V.1.2.2.2.1 w v q hv)
    · exact q
    · exact absurd e2.symm (V.1.2.2.2.1 v w q hw)
  subst hwv
  exact e
/-- one change, on the class alone -/
theorem am_change {s : ZS} {nx kp k : Nat} {rw : Nat → ZS} {xa xb : Int32} (h : nx ≤ 8) (h2 : kp ≤ 8) : (x_am_change s nx kp rw k xa xb).1 = (x_apply k xa xb s).1 ∧ (x_am_change s nx kp rw k xa xb).2.1 = (x_apply k xa xb s).2 ∧ (x_am_change s nx kp rw k xa xb).2.2.1 ≤ 8 ∧ (x_am_change s nx kp rw k xa xb).2.2.2.1 ≤ 8 := by
  rw [x_am_change_eq h h2]
  cases e : (x_apply k xa xb s).1 with
  | inl v =>
    refine ⟨rfl, rfl, ?_, ?_⟩
    · show (nx + 1) % 9 ≤ 8
      omega
    · show z_kcg kp ≤ 8
      unfold z_kcg
      split <;> omega
  | inr E => exact ⟨rfl, rfl, h, h2⟩
theorem am_eta {o : (Int32 ⊕ String) × ZS × Nat × Nat × (Nat → ZS)} : (match o with | ((.inl v1), y1_s, y1_nx, y1_kp, y1_rw) => ((Sum.inl v1, y1_s, y1_nx, y1_kp, y1_rw) : (Int32 ⊕ String) × ZS × Nat × Nat × (Nat → ZS)) | ((.inr e1), y1_s, y1_nx, y1_kp, y1_rw) => (.inr e1, y1_s, y1_nx, y1_kp, y1_rw)) = o := by
  obtain ⟨o, a, b, c, d⟩ := o
  cases o <;> rfl
/-- what an operation leaves: a state within its bounds, or nothing changed -/
theorem op_wf {B k : Nat} {s : ZS} {xa xb : Int32} {c : Int32} {al' : Nat → Int32} {rs' : Int32} {o : Int32 ⊕ String} {s' : ZS} (h : z_op B (zAl s) s c al' rs' o s') (e : x_apply k xa xb s = (o, s')) :
    ((∃ v, (x_apply k xa xb s).1 = .inl v) ∧ z_wfB (B + 1) (x_apply k xa xb s).2) ∨ ((x_apply k xa xb s).2 = s ∧ ((c = 1 ∧ (x_apply k xa xb s).1 = .inr "java/lang/IllegalArgumentException") ∨ (c = 2 ∧ (x_apply k xa xb s).1 = .inr "java/lang/IllegalStateException") ∨ (c = 3 ∧ (x_apply k xa xb s).1 = .inr "java/util/NoSuchElementException"))) := by
  rw [e]
  rcases h with ⟨h1, h2, h3, h4, h5⟩ | ⟨h1, h2, h3, h4⟩ | ⟨h1, h2, h3, h4⟩ | ⟨h1, h2, h3, h4⟩
  · exact Or.inl ⟨⟨_, h2⟩, h4⟩
  · exact Or.inr ⟨h3, Or.inl ⟨h1, h2⟩⟩
  · exact Or.inr ⟨h3, Or.inr (Or.inl ⟨h1, h2⟩)⟩
  · exact Or.inr ⟨h3, Or.inr (Or.inr ⟨h1, h2⟩)⟩
theorem z_V.same {B : Nat} {s s' : ZS} (V : z_V B s) (h : z_wfB (B + 1) s') (e1 : s'.1 = s.1) (e2 : s'.2.1 = s.2.1) : z_V (B + 1) s' := ⟨h, fun i j h1 h2 => by
  rw [e1] at h2
  obtain ⟨a, b, x, y, z, w⟩ := V.2 i j h1 h2
  rw [e2]
  exact ⟨a, b, x, y, z, by omega⟩⟩
theorem op_keeps {k : Nat} (hk : 2 ≤ k) (xa xb : Int32) (s : ZS) : (x_apply k xa xb s).2.1 = s.1 ∧ (x_apply k xa xb s).2.2.1 = s.2.1 := by
  match k, hk with
  | 2, _ => exact ⟨rfl, rfl⟩
  | 3, _ => exact ⟨rfl, rfl⟩
  | 4, _ => exact ⟨rfl, rfl⟩
  | 5, _ => exact ⟨rfl, rfl⟩
  | 6, _ => exact ⟨rfl, rfl⟩
  | 7, _ => exact ⟨rfl, rfl⟩
  | 8, _ => exact ⟨rfl, rfl⟩
  | 9, _ => exact ⟨rfl, rfl⟩
  | k + 10, _ => exact ⟨rfl, rfl⟩
/-- adding -/
theorem add_is (xw xb : Int32) (s : ZS) : (x_apply 0 xw xb s).2 = s ∨ ((x_apply 0 xw xb s).2.1 = s.1 + 1 ∧ (x_apply 0 xw xb s).2.2.1 = upd s.2.1 s.1 s.2.2.2.2.2.2.1) := by
  obtain ⟨n, id, wt, ag, tg, att, ni, dy, mn, mv, en, wo, br⟩ := s
  rw [x_apply_02]
  dsimp only
  unfold x_st_apply0 x_st_add
  rcases x_st_mustBeWeight xw with u | u
  · dsimp only
    by_cases h : n < 8
    · rw [if_pos h]
      dsimp only
      exact Or.inr ⟨rfl, rfl⟩
    · rw [if_neg h]
      exact Or.inl rfl
  · exact Or.inl rfl
theorem z_V.add {B : Nat} {s : ZS} (V : z_V B s) (hB : B < 2 ^ 30) (xw xb : Int32) : z_V (B + 1) (x_apply 0 xw xb s).2 ∧ ((x_apply 0 xw xb s).2.1 = s.1 ∨ (x_apply 0 xw xb s).2.1 = s.1 + 1) ∧ ((∃ v, (x_apply 0 xw xb s).1 = .inl v) ∨ (x_apply 0 xw xb s).1 = .inr "java/lang/IllegalArgumentException" ∨ (x_apply 0 xw xb s).1 = .inr "java/lang/IllegalStateException") := by
  obtain ⟨h1, h2, -⟩ := o_add V.1 V.R 0 xw xb hB
  rcases op_wf (k := 0) (xa := xw) (xb := xb) h1 rfl with ⟨a, b⟩ | ⟨a, b⟩
  · refine ⟨⟨b, ?_⟩, ?_, Or.inl a⟩
    · rcases add_is xw xb s with e | ⟨e1, e2⟩
      · rw [e]
        exact (V.mono (by omega)).2
      · intro i j hij hj
        rw [e1] at hj
        rw [e2]
        obtain ⟨k, k1, k2, k3⟩ := V.1.2.2.1
        by_cases q : j = s.1
        · subst q
          obtain ⟨m, m1, m2⟩ := k3 i hij
          rw [upd_eq, upd_ne (by omega)]
          exact ⟨m, k, m1, m2, k2, by omega⟩
        · rw [upd_ne (by omega), upd_ne (by omega)]
          obtain ⟨a1, b1, x, y, z, w⟩ := V.2 i j hij (by omega)
          exact ⟨a1, b1, x, y, z, by omega⟩
    · rcases add_is xw xb s with e | ⟨e1, e2⟩
      · exact Or.inl (by rw [e])
      · exact Or.inr e1
  · refine ⟨by rw [a]; exact V.mono (by omega), Or.inl (by rw [a]), ?_⟩
    rcases b with ⟨-, b⟩ | ⟨-, b⟩ | ⟨c, b⟩
    · exact Or.inr (Or.inl b)
    · exact Or.inr (Or.inr b)
    · exact absurd c h2
theorem rem24_id : ∀ r k ag id tg wt i, (x_st_remove_24 r k ag id tg wt).2.1 i = if k ≤ i ∧ i < k + r then id (i + 1) else id i := by
  intro r
  induction r with
  | zero =>
    intro k ag id tg wt i
    rw [if_neg (by omega)]
    rfl
  | succ r ih =>
    intro k ag id tg wt i
    show (x_st_remove_24 r (k + 1) _ (upd id k (id (k + 1))) _ _).2.1 i = _
    rw [ih]
    by_cases e : i = k
    · subst e
      rw [if_neg (by omega), upd_eq, if_pos (by omega)]
    · by_cases l : k + 1 ≤ i ∧ i < k + 1 + r
      · rw [if_pos l, upd_ne (by omega), if_pos (by omega)]
      · rw [if_neg l, upd_ne e, if_neg (by omega)]
/-- taking away -/
theorem rem_is (xd xb : Int32) (s : ZS) : (x_apply 1 xd xb s).2 = s ∨ ∃ v, x_st_slotOfKnown s.1 s.2.1 xd = .inl v ∧ (x_apply 1 xd xb s).2.1 = s.1 - 1 ∧ ∀ i, (x_apply 1 xd xb s).2.2.1 i = if v ≤ i ∧ i < v + (s.1 - 1 - v) then s.2.1 (i + 1) else s.2.1 i := by
  obtain ⟨n, id, wt, ag, tg, att, ni, dy, mn, mv, en, wo, br⟩ := s
  have e2 : (x_apply 1 xd xb (n, id, wt, ag, tg, att, ni, dy, mn, mv, en, wo, br)).2 = (let t := x_st_apply1 n id wt ag tg att mn mv br xd; (t.2.1, t.2.2.1, t.2.2.2.1, t.2.2.2.2.1, t.2.2.2.2.2.1, t.2.2.2.2.2.2.1, ni, dy, t.2.2.2.2.2.2.2.1, mv, en, wo, t.2.2.2.2.2.2.2.2)) := rfl
  rw [e2]
  dsimp only
  unfold x_st_apply1 x_st_remove
  rcases h : x_st_slotOfKnown n id xd with v | u
  · refine Or.inr ⟨v, rfl, ?_⟩
    dsimp only
    have q := rem24_id (n - 1 - v) v ag id tg wt
    generalize x_st_remove_24 (n - 1 - v) v ag id tg wt = t at q ⊢
    obtain ⟨a, b, c, d⟩ := t
    dsimp only at q ⊢
    generalize x_dl_breakOffIfMoved mn mv br xd = t2
    obtain ⟨e, f⟩ := t2
    exact ⟨rfl, q⟩
  · exact Or.inl rfl
theorem slot_lt {n : Nat} {id : Nat → Int32} {xd : Int32} {v : Nat} (h : x_st_slotOfKnown n id xd = .inl v) : v < n := by
  have key : ∀ r k, k + r = n → x_st_slotOfKnown_2 id xd r k = .inr (.inl v) → v < n := by
    intro r
    induction r with
    | zero =>
      intro k _ q
      cases q
    | succ r ih =>
      intro k hk q
      have e1 : x_st_slotOfKnown_2 id xd (r + 1) k = if id k = xd then .inr (.inl k) else x_st_slotOfKnown_2 id xd r (k + 1) := rfl
      rw [e1] at q
      by_cases e : id k = xd
      · rw [if_pos e] at q
        cases q
        omega
      · rw [if_neg e] at q
        exact ih (k + 1) (by omega) q
  unfold x_st_slotOfKnown at h
  cases q : x_st_slotOfKnown_2 id xd n 0 with
  | inl u =>
    rw [q] at h
    cases h
  | inr z =>
    rw [q] at h
    have h : z = .inl v := h
    rw [h] at q
    exact key n 0 (by omega) q
theorem z_V.remove {B : Nat} {s : ZS} (V : z_V B s) (xd xb : Int32) : z_V (B + 1) (x_apply 1 xd xb s).2 ∧ ((x_apply 1 xd xb s).2.1 = s.1 ∨ (x_apply 1 xd xb s).2.1 = s.1 - 1) ∧ ((∃ v, (x_apply 1 xd xb s).1 = .inl v) ∨ (x_apply 1 xd xb s).1 = .inr "java/util/NoSuchElementException") := by
  obtain ⟨h1, h2, h3, -⟩ := o_remove V.1 V.R 0 xd xb
  rcases op_wf (k := 1) (xa := xd) (xb := xb) h1 rfl with ⟨a, b⟩ | ⟨a, b⟩
  · refine ⟨⟨b, ?_⟩, ?_, Or.inl a⟩
    · rcases rem_is xd xb s with e | ⟨v, ev, e1, e2⟩
      · rw [e]
        exact (V.mono (by omega)).2
      · have hvn := slot_lt ev
        intro i j hij hj
        rw [e1] at hj
        rw [e2, e2]
        have g : ∀ x y, x < y → y < s.1 → ∃ a b, a < b ∧ s.2.1 x = nI a ∧ s.2.1 y = nI b ∧ b < B + 1 := fun x y p q => by
          obtain ⟨a1, b1, x1, y1, z1, w1⟩ := V.2 x y p q
          exact ⟨a1, b1, x1, y1, z1, by omega⟩
        split <;> split
        · exact g _ _ (by omega) (by omega)
        · exact g _ _ (by omega) (by omega)
        · exact g _ _ (by omega) (by omega)
        · exact g _ _ (by omega) (by omega)
    · rcases rem_is xd xb s with e | ⟨v, ev, e1, e2⟩
      · exact Or.inl (by rw [e])
      · exact Or.inr e1
  · refine ⟨by rw [a]; exact V.mono (by omega), Or.inl (by rw [a]), ?_⟩
    rcases b with ⟨c, b⟩ | ⟨c, b⟩ | ⟨c, b⟩
    · exact absurd c h2
    · exact absurd c h3
    · exact Or.inr b
/-- what an operation that leaves the arguments as they are answers and leaves -/
def z_opE (B k : Nat) (xa xb : Int32) (s : ZS) (Es : List String) : Prop := z_V (B + 1) (x_apply k xa xb s).2 ∧ (x_apply k xa xb s).2.1 = s.1 ∧ ((∃ v, (x_apply k xa xb s).1 = .inl v) ∨ ∃ E ∈ Es, (x_apply k xa xb s).1 = .inr E)
theorem op_E {B k : Nat} {s : ZS} {xa xb c : Int32} {al' : Nat → Int32} {rs' : Int32} {Es : List String} (V : z_V B s) (hk : 2 ≤ k) (h : z_op B (zAl s) s c al' rs' (x_apply k xa xb s).1 (x_apply k xa xb s).2) (h1 : c = 1 → "java/lang/IllegalArgumentException" ∈ Es) (h2 : c = 2 → "java/lang/IllegalStateException" ∈ Es) (h3 : c = 3 → "java/util/NoSuchElementException" ∈ Es) : z_opE B k xa xb s Es := by
  obtain ⟨k1, k2⟩ := op_keeps hk xa xb s
  rcases op_wf (k := k) (xa := xa) (xb := xb) h rfl with ⟨a, b⟩ | ⟨a, b⟩
  · exact ⟨V.same b k1 k2, k1, Or.inl a⟩
  · refine ⟨by rw [a]; exact V.mono (by omega), k1, Or.inr ?_⟩
    rcases b with ⟨c, b⟩ | ⟨c, b⟩ | ⟨c, b⟩
    · exact ⟨_, h1 c, b⟩
    · exact ⟨_, h2 c, b⟩
    · exact ⟨_, h3 c, b⟩
theorem z_V.leads {B : Nat} {s : ZS} (V : z_V B s) (xa xb : Int32) : z_opE B 2 xa xb s ["java/util/NoSuchElementException", "java/lang/IllegalArgumentException", "java/lang/IllegalStateException"] :=
  op_E V (by decide) (o_leads V.1 V.R 0 xa xb) (fun _ => by simp) (fun _ => by simp) (fun _ => by simp)
theorem z_V.yields {B : Nat} {s : ZS} (V : z_V B s) (xa xb : Int32) : z_opE B 3 xa xb s ["java/util/NoSuchElementException"] := by
  obtain ⟨h, h1, h2⟩ := o_yields V.1 V.R 0 xa xb
  exact op_E V (by decide) h (fun c => absurd c h1) (fun c => absurd c h2) (fun _ => by simp)
theorem z_V.weighs {B : Nat} {s : ZS} (V : z_V B s) (xa xb : Int32) : z_opE B 4 xa xb s ["java/util/NoSuchElementException", "java/lang/IllegalArgumentException"] := by
  obtain ⟨h, h2⟩ := o_weigh V.1 V.R 0 xa xb
  exact op_E V (by decide) h (fun _ => by simp) (fun c => absurd c h2) (fun _ => by simp)
theorem z_V.renews {B : Nat} {s : ZS} (V : z_V B s) (xa xb : Int32) : z_opE B 5 xa xb s ["java/util/NoSuchElementException"] := by
  obtain ⟨h, h1, h2⟩ := o_renew V.1 V.R 0 xa xb
  exact op_E V (by decide) h (fun c => absurd c h1) (fun c => absurd c h2) (fun _ => by simp)
theorem z_V.claims {B : Nat} {s : ZS} (V : z_V B s) (xa xb : Int32) : z_opE B 6 xa xb s ["java/util/NoSuchElementException", "java/lang/IllegalStateException"] := by
  obtain ⟨h, h1, -⟩ := o_claim V.1 V.R 0 xa xb
  exact op_E V (by decide) h (fun c => absurd c h1) (fun _ => by simp) (fun _ => by simp)
theorem z_V.replies {B : Nat} {s : ZS} (V : z_V B s) (xa xb : Int32) : z_opE B 7 xa xb s ["java/util/NoSuchElementException", "java/lang/IllegalArgumentException", "java/lang/IllegalStateException"] := by
  obtain ⟨h, -⟩ := o_reply V.1 V.R 0 xa xb
  exact op_E V (by decide) h (fun _ => by simp) (fun _ => by simp) (fun _ => by simp)
theorem z_V.takes {B : Nat} {s : ZS} (V : z_V B s) (xa xb : Int32) : z_opE B 8 xa xb s ["java/util/NoSuchElementException", "java/lang/IllegalStateException"] := by
  obtain ⟨h, h1, -⟩ := o_takes V.1 V.R 0 xa xb
  exact op_E V (by decide) h (fun c => absurd c h1) (fun _ => by simp) (fun _ => by simp)
theorem z_V.closes {B : Nat} {s : ZS} (V : z_V B s) (xa xb : Int32) : z_opE B 9 xa xb s ["java/util/NoSuchElementException"] := by
  obtain ⟨h, h1, h2, -⟩ := o_closes V.1 V.R 0 xa xb
  exact op_E V (by decide) h (fun c => absurd c h1) (fun c => absurd c h2) (fun _ => by simp)
theorem z_V.passes {B : Nat} {s : ZS} (V : z_V B s) (xa xb : Int32) : z_opE B 10 xa xb s ["java/lang/IllegalArgumentException"] := by
  obtain ⟨h, h2, h3⟩ := o_passes V.1 V.R 0 xa xb (fun _ => 0)
  exact op_E V (by decide) h (fun _ => by simp) (fun c => absurd c h2) (fun c => absurd c h3)
