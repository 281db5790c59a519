def z_ar (k : Nat) : Nat := [1, 1, 2, 2, 2, 1, 1, 1, 0, 0, 1].getD k 0
def z_kl (k : Nat) : Int32 := [97, 109, 116, 121, 119, 110, 99, 112, 98, 101, 100].getD k 0
section CMD
variable {pc ty : Nat} {f ip : Nat → Int32}
/-- letters, a space and a number -/
def z_A (ty : Nat) (f : Nat → Int32) (lw : List Int32) (m p : Nat) : Bool × Nat × Int32 :=
  if (z_lit ty f lw p).1 then (if (z_lit ty f lw p).2 < ty ∧ f (z_lit ty f lw p).2 = 32 then (if (z_nm ty f m ((z_lit ty f lw p).2 + 1)).2.1 = 0 then (false, (z_lit ty f lw p).2 + 1, 0) else (true, (z_nm ty f m ((z_lit ty f lw p).2 + 1)).2.2, (z_nm ty f m ((z_lit ty f lw p).2 + 1)).1)) else (false, (z_lit ty f lw p).2, 0)) else (false, (z_lit ty f lw p).2, 0)
/-- a sign and a number -/
def z_B (ty : Nat) (f : Nat → Int32) (x : Int32) (m p : Nat) : Bool × Nat × Int32 :=
  if p < ty ∧ f p = x then (if (z_nm ty f m (p + 1)).2.1 = 0 then (false, p + 1, 0) else (true, (z_nm ty f m (p + 1)).2.2, (z_nm ty f m (p + 1)).1)) else (false, p, 0)
theorem z_Bb {x : Int32} {m p : Nat} (h : p ≤ ty) : p ≤ (z_B ty f x m p).2.1 ∧ (z_B ty f x m p).2.1 ≤ ty := by
  unfold z_B
  split
  · next q =>
    have hb := z_nmle (ty := ty) (f := f) (m := m) (p := p + 1) q.1
    split
    · exact ⟨Nat.le_succ p, q.1⟩
    · exact ⟨by dsimp only; omega, hb.2⟩
  · exact ⟨Nat.le_refl p, h⟩
theorem z_Ab {lw : List Int32} {m p : Nat} (h : p ≤ ty) : p ≤ (z_A ty f lw m p).2.1 ∧ (z_A ty f lw m p).2.1 ≤ ty ∧ (z_lit ty f lw p).2 ≤ (z_A ty f lw m p).2.1 ∧ ((z_A ty f lw m p).1 = true → p + lw.length + 1 ≤ (z_A ty f lw m p).2.1) := by
  have h1 := z_litge (ty := ty) (f := f) lw p
  have h2 := z_litle (f := f) lw p h
  unfold z_A
  by_cases a : (z_lit ty f lw p).1 = true
  · have h3 := z_litok lw p a
    rw [if_pos a]
    by_cases b : (z_lit ty f lw p).2 < ty ∧ f (z_lit ty f lw p).2 = 32
    · have hb := z_nmle (ty := ty) (f := f) (m := m) (p := (z_lit ty f lw p).2 + 1) b.1
      rw [if_pos b]
      by_cases c : (z_nm ty f m ((z_lit ty f lw p).2 + 1)).2.1 = 0
      · rw [if_pos c]
        exact ⟨by dsimp only; omega, b.1, by dsimp only; omega, fun q => (by cases q)⟩
      · rw [if_neg c]
        exact ⟨by dsimp only; omega, hb.2, by dsimp only; omega, fun _ => by dsimp only; omega⟩
    · rw [if_neg b]
      exact ⟨h1, h2, Nat.le_refl _, fun q => (by cases q)⟩
  · rw [if_neg a]
    exact ⟨h1, h2, Nat.le_refl _, fun q => (by cases q)⟩
theorem z_cmS {x n : Int32} {m : Nat} {r : List Int32} (h1 : x ≠ 35) (h2 : x ≠ 63) (hmn : (m = 1 ∧ n = 63) ∨ (m = 2 ∧ n = 35)) (oa ob : Nat → Int32) (p : Nat) : z_cm pc ty f (x :: n :: r) oa ob 0 p = if (z_B ty f x m p).1 then z_cm pc ty f r (upd oa pc (z_B ty f x m p).2.2) ob 1 (z_B ty f x m p).2.1 else (false, (z_B ty f x m p).2.1, 0, oa, ob) := by
  have eC : z_cm pc ty f (x :: n :: r) oa ob 0 p = (match x_pr_readPart pc p 0 oa ob ty f x with
    | (v, pp', po', oa', ob') => if v then z_cm pc ty f (n :: r) oa' ob' po' pp' else (false, pp', po', oa', ob')) := rfl
  rw [eC, z_rd1 h1 h2]
  by_cases q : p < ty ∧ f p = x
  · have eB : z_B ty f x m p = (if (z_nm ty f m (p + 1)).2.1 = 0 then (false, p + 1, 0) else (true, (z_nm ty f m (p + 1)).2.2, (z_nm ty f m (p + 1)).1)) := if_pos q
    rw [if_pos q, eB]
    dsimp only
    rw [if_pos rfl]
    have eD : z_cm pc ty f (n :: r) oa ob 0 (p + 1) = (match x_pr_readPart pc (p + 1) 0 oa ob ty f n with
      | (v, pp', po', oa', ob') => if v then z_cm pc ty f r oa' ob' po' pp' else (false, pp', po', oa', ob')) := rfl
    rw [eD]
    rcases hmn with ⟨rfl, rfl⟩ | ⟨rfl, rfl⟩
    · rw [z_rd63]
      by_cases c : (z_nm ty f 1 (p + 1)).2.1 = 0
      · rw [if_pos c, if_pos c]
        rfl
      · rw [if_neg c, if_neg c]
        rfl
    · rw [z_rd35]
      by_cases c : (z_nm ty f 2 (p + 1)).2.1 = 0
      · rw [if_pos c, if_pos c]
        rfl
      · rw [if_neg c, if_neg c]
        rfl
  · have eB : z_B ty f x m p = (false, p, 0) := if_neg q
    rw [if_neg q, eB]
    rfl
theorem z_cmS' {x n : Int32} {m : Nat} {r : List Int32} (h1 : x ≠ 35) (h2 : x ≠ 63) (hmn : (m = 1 ∧ n = 63) ∨ (m = 2 ∧ n = 35)) (oa ob : Nat → Int32) (p : Nat) : z_cm pc ty f (x :: n :: r) oa ob 1 p = if (z_B ty f x m p).1 then z_cm pc ty f r oa (upd ob pc (z_B ty f x m p).2.2) 2 (z_B ty f x m p).2.1 else (false, (z_B ty f x m p).2.1, 1, oa, ob) := by
  have eC : z_cm pc ty f (x :: n :: r) oa ob 1 p = (match x_pr_readPart pc p 1 oa ob ty f x with
    | (v, pp', po', oa', ob') => if v then z_cm pc ty f (n :: r) oa' ob' po' pp' else (false, pp', po', oa', ob')) := rfl
  rw [eC, z_rd1 h1 h2]
  by_cases q : p < ty ∧ f p = x
  · have eB : z_B ty f x m p = (if (z_nm ty f m (p + 1)).2.1 = 0 then (false, p + 1, 0) else (true, (z_nm ty f m (p + 1)).2.2, (z_nm ty f m (p + 1)).1)) := if_pos q
    rw [if_pos q, eB]
    dsimp only
    rw [if_pos rfl]
    have eD : z_cm pc ty f (n :: r) oa ob 1 (p + 1) = (match x_pr_readPart pc (p + 1) 1 oa ob ty f n with
      | (v, pp', po', oa', ob') => if v then z_cm pc ty f r oa' ob' po' pp' else (false, pp', po', oa', ob')) := rfl
    rw [eD]
    rcases hmn with ⟨rfl, rfl⟩ | ⟨rfl, rfl⟩
    · rw [z_rd63']
      by_cases c : (z_nm ty f 1 (p + 1)).2.1 = 0
      · rw [if_pos c, if_pos c]
        rfl
      · rw [if_neg c, if_neg c]
        rfl
    · rw [z_rd35']
      by_cases c : (z_nm ty f 2 (p + 1)).2.1 = 0
      · rw [if_pos c, if_pos c]
        rfl
      · rw [if_neg c, if_neg c]
        rfl
  · have eB : z_B ty f x m p = (false, p, 0) := if_neg q
    rw [if_neg q, eB]
    rfl
theorem z_AB {lw : List Int32} {m p : Nat} : z_A ty f lw m p = if (z_lit ty f lw p).1 then z_B ty f 32 m (z_lit ty f lw p).2 else (false, (z_lit ty f lw p).2, 0) := rfl
/-- the class on letters, a space, a number and what follows -/
theorem z_cmA {x0 n : Int32} {lw r : List Int32} {m p : Nat} (hl : ∀ x ∈ x0 :: lw, x ≠ 35 ∧ x ≠ 63) (hmn : (m = 1 ∧ n = 63) ∨ (m = 2 ∧ n = 35)) (hp : p < ty) (h0 : f p = x0) (oa ob : Nat → Int32) : z_cm pc ty f (x0 :: lw ++ 32 :: n :: r) oa ob 0 p = if (z_A ty f lw m (p + 1)).1 then z_cm pc ty f r (upd oa pc (z_A ty f lw m (p + 1)).2.2) ob 1 (z_A ty f lw m (p + 1)).2.1 else (false, (z_A ty f lw m (p + 1)).2.1, 0, oa, ob) := by
  have eL : z_lit ty f (x0 :: lw) p = z_lit ty f lw (p + 1) := if_pos ⟨hp, h0⟩
  rw [z_cm_lit (x0 :: lw) p hl, eL, z_AB]
  by_cases a : (z_lit ty f lw (p + 1)).1 = true
  · rw [if_pos a, if_pos a]
    exact z_cmS (by decide) (by decide) hmn oa ob _
  · rw [if_neg a, if_neg a]
    rfl
theorem z_behB (hT : ∀ j, j < ty → f j = ip j) (h60 : ty ≤ 60) {x : Int32} (hx : x ≠ -1) {m : Nat} (hm : 0 < m) {p : Nat} (hp : p ≤ ty) : x_mo_behind ip ty p (-1) x m = if (z_B ty f x m p).1 then ((z_B ty f x m p).2.2, (z_B ty f x m p).2.1, -1) else (0, (z_B ty f x m p).2.1, nI (z_B ty f x m p).2.1) := by
  rw [z_beh hT h60 hx hm hp]
  unfold z_B
  by_cases q : p < ty ∧ f p = x
  · rw [if_pos q, if_pos q]
    by_cases c : (z_nm ty f m (p + 1)).2.1 = 0
    · rw [if_pos c, if_pos c]
      rfl
    · rw [if_neg c, if_neg c]
      rfl
  · rw [if_neg q, if_neg q]
    rfl
theorem z_behA (hT : ∀ j, j < ty → f j = ip j) (h60 : ty ≤ 60) {lw : List Int32} (hl : ∀ x ∈ lw, x ≠ -1) {m : Nat} (hm : 0 < m) {p : Nat} (hp : p ≤ ty) : x_mo_behind ip ty (z_nds ip ty lw p (-1)).1 (z_nds ip ty lw p (-1)).2 32 m = if (z_A ty f lw m p).1 then ((z_A ty f lw m p).2.2, (z_A ty f lw m p).2.1, -1) else (0, (z_A ty f lw m p).2.1, nI (z_A ty f lw m p).2.1) := by
  have hle := z_litle (f := f) lw p hp
  rw [z_ndsL hT h60 lw p hp hl, z_AB]
  by_cases a : (z_lit ty f lw p).1 = true
  · rw [if_pos a, if_pos a]
    exact z_behB hT h60 (by decide) hm hle
  · rw [if_neg a, if_neg a]
    exact z_behE (nI_pos (by omega))
/-- how a command of kind k is read on both sides -/
def z_cmd (pc ty p k cn : Nat) (f ip cm : Nat → Int32) : Prop :=
  (∃ q a b po, p + 3 ≤ q ∧ q ≤ ty ∧ (∀ oa ob, z_cm pc ty f (q_pat k) oa ob 0 p = (true, q, po, (if 1 ≤ z_ar k then upd oa pc a else oa), (if 2 ≤ z_ar k then upd ob pc b else ob))) ∧ ∃ cm', x_mo_command ip ty p (-1) cm cn = (q, -1, cm', cn + 1) ∧ cm' (3 * cn) = z_kl k ∧ (1 ≤ z_ar k → cm' (3 * cn + 1) = a) ∧ (2 ≤ z_ar k → cm' (3 * cn + 2) = b) ∧ ∀ i, i < 3 * cn → cm' i = cm i) ∨
  (∃ q, p + 1 ≤ q ∧ q ≤ ty ∧ (p + 1 < ty ∧ f (p + 1) = (q_pat k).getD 1 0 → p + 2 ≤ q) ∧ (∀ oa ob, ∃ po oa' ob', z_cm pc ty f (q_pat k) oa ob 0 p = (false, q, po, oa', ob')) ∧ ∃ he cm', x_mo_command ip ty p (-1) cm cn = (he, nI q, cm', cn + 1))
theorem z_cm24 {cm : Nat → Int32} {cn i : Nat} (h : i < 3 * cn) : x_mo_command_24 cn 3 0 cm i = cm i := by
  show upd (upd (upd cm (3 * cn + 0) 0) (3 * cn + 1) 0) (3 * cn + 2) 0 i = cm i
  rw [upd_ne (by omega), upd_ne (by omega), upd_ne (by omega)]
theorem z_lit2 {x1 : Int32} {r : List Int32} {p : Nat} (h : p + 1 < ty ∧ f (p + 1) = x1) : p + 2 ≤ (z_lit ty f (x1 :: r) (p + 1)).2 := by
  have e : z_lit ty f (x1 :: r) (p + 1) = z_lit ty f r (p + 1 + 1) := if_pos h
  rw [e]
  exact z_litge r (p + 1 + 1)
theorem z_w0 (hT : ∀ j, j < ty → f j = ip j) (h60 : ty ≤ 60) {p cn : Nat} {cm : Nat → Int32} (hp : p < ty) (h0 : f p = 97) (hs : ¬ x_mo_sign ip ty (p + 1) = 116) : x_mo_word ip ty (p + 1) (-1) 97 = (97, (z_nds ip ty [100, 100] (p + 1) (-1)).1, (z_nds ip ty [100, 100] (p + 1) (-1)).2) := by
  unfold x_mo_word
  rw [if_neg (by decide), if_neg (by decide), if_neg (by decide), if_neg (by decide), if_neg (by decide), if_neg (by decide), if_neg (by decide)]
  rw [if_neg hs]
  simp only [x_mo_letters, z_nds]
theorem z_w1 (hT : ∀ j, j < ty → f j = ip j) (h60 : ty ≤ 60) {p cn : Nat} {cm : Nat → Int32} (hp : p < ty) (h0 : f p = 114) (hs : ¬ ((p + 1 < ty ∧ f (p + 1) = 101) ∧ (x_mo_sign ip ty (p + 2) = 110 ∨ x_mo_sign ip ty (p + 2) = 112))) : x_mo_word ip ty (p + 1) (-1) 114 = (109, (z_nds ip ty [101, 109, 111, 118, 101] (p + 1) (-1)).1, (z_nds ip ty [101, 109, 111, 118, 101] (p + 1) (-1)).2) := by
  unfold x_mo_word
  rw [if_neg (by decide), if_neg (by decide), if_neg (by decide), if_neg (by decide), if_pos rfl]
  unfold x_mo_again
  have e101 := z_need hT (by decide : (101 : Int32) ≠ -1) (p + 1)
  by_cases h1 : p + 1 < ty ∧ f (p + 1) = 101
  · rw [if_pos h1] at e101
    have eN : z_nds ip ty [101, 109, 111, 118, 101] (p + 1) (-1) = z_nds ip ty [109, 111, 118, 101] (p + 1 + 1) (-1) := by
      show z_nds ip ty [109, 111, 118, 101] (x_mo_needs ip ty (p + 1) (-1) 101).1 (x_mo_needs ip ty (p + 1) (-1) 101).2 = _
      rw [e101]
    rw [e101, eN]
    dsimp only
    rw [if_pos (by decide : (-1 : Int32) < 0), if_neg (fun c => hs ⟨h1, Or.inl c⟩), if_neg (fun c => hs ⟨h1, Or.inr c⟩)]
    simp only [x_mo_letters, z_nds]
  · rw [if_neg h1] at e101
    have eN : z_nds ip ty [101, 109, 111, 118, 101] (p + 1) (-1) = (p + 1, nI (p + 1)) := by
      show z_nds ip ty [109, 111, 118, 101] (x_mo_needs ip ty (p + 1) (-1) 101).1 (x_mo_needs ip ty (p + 1) (-1) 101).2 = _
      rw [e101]
      exact z_ndsE (nI_pos (by omega)) _ _
    rw [e101, eN]
    dsimp only
    rw [if_neg (nI_pos (by omega))]
theorem z_w2 (hT : ∀ j, j < ty → f j = ip j) (h60 : ty ≤ 60) {p cn : Nat} {cm : Nat → Int32} (hp : p < ty) (h0 : f p = 97) (hs : x_mo_sign ip ty (p + 1) = 116) : x_mo_word ip ty (p + 1) (-1) 97 = (116, (z_nds ip ty [116, 116, 97, 99, 107] (p + 1) (-1)).1, (z_nds ip ty [116, 116, 97, 99, 107] (p + 1) (-1)).2) := by
  unfold x_mo_word
  rw [if_neg (by decide), if_neg (by decide), if_neg (by decide), if_neg (by decide), if_neg (by decide), if_neg (by decide), if_neg (by decide)]
  rw [if_pos hs]
  simp only [x_mo_letters, z_nds]
theorem z_w3 (hT : ∀ j, j < ty → f j = ip j) (h60 : ty ≤ 60) {p cn : Nat} {cm : Nat → Int32} (hp : p < ty) (h0 : f p = 121) : x_mo_word ip ty (p + 1) (-1) 121 = (121, (z_nds ip ty [105, 101, 108, 100] (p + 1) (-1)).1, (z_nds ip ty [105, 101, 108, 100] (p + 1) (-1)).2) := by
  unfold x_mo_word
  rw [if_neg (by decide), if_neg (by decide), if_neg (by decide), if_neg (by decide), if_neg (by decide), if_neg (by decide), if_pos rfl]
  simp only [x_mo_letters, z_nds]
theorem z_w4 (hT : ∀ j, j < ty → f j = ip j) (h60 : ty ≤ 60) {p cn : Nat} {cm : Nat → Int32} (hp : p < ty) (h0 : f p = 119) : x_mo_word ip ty (p + 1) (-1) 119 = (119, (z_nds ip ty [101, 105, 103, 104] (p + 1) (-1)).1, (z_nds ip ty [101, 105, 103, 104] (p + 1) (-1)).2) := by
  unfold x_mo_word
  rw [if_neg (by decide), if_neg (by decide), if_neg (by decide), if_neg (by decide), if_neg (by decide), if_pos rfl]
  simp only [x_mo_letters, z_nds]
theorem z_w5 (hT : ∀ j, j < ty → f j = ip j) (h60 : ty ≤ 60) {p cn : Nat} {cm : Nat → Int32} (hp : p < ty) (h0 : f p = 114) (h1 : p + 1 < ty ∧ f (p + 1) = 101) (hs : x_mo_sign ip ty (p + 2) = 110) : x_mo_word ip ty (p + 1) (-1) 114 = (110, (z_nds ip ty [101, 110, 101, 119] (p + 1) (-1)).1, (z_nds ip ty [101, 110, 101, 119] (p + 1) (-1)).2) := by
  unfold x_mo_word
  rw [if_neg (by decide), if_neg (by decide), if_neg (by decide), if_neg (by decide), if_pos rfl]
  unfold x_mo_again
  have e101 := z_need hT (by decide : (101 : Int32) ≠ -1) (p + 1)
  rw [if_pos h1] at e101
  have eN : z_nds ip ty [101, 110, 101, 119] (p + 1) (-1) = z_nds ip ty [110, 101, 119] (p + 1 + 1) (-1) := by
    show z_nds ip ty [110, 101, 119] (x_mo_needs ip ty (p + 1) (-1) 101).1 (x_mo_needs ip ty (p + 1) (-1) 101).2 = _
    rw [e101]
  rw [e101, eN]
  dsimp only
  rw [if_pos (by decide : (-1 : Int32) < 0)]
  rw [if_pos hs]
  simp only [x_mo_letters, z_nds]
theorem z_w6 (hT : ∀ j, j < ty → f j = ip j) (h60 : ty ≤ 60) {p cn : Nat} {cm : Nat → Int32} (hp : p < ty) (h0 : f p = 99) : x_mo_word ip ty (p + 1) (-1) 99 = (99, (z_nds ip ty [108, 97, 105, 109] (p + 1) (-1)).1, (z_nds ip ty [108, 97, 105, 109] (p + 1) (-1)).2) := by
  unfold x_mo_word
  rw [if_neg (by decide), if_pos rfl]
  simp only [x_mo_letters, z_nds]
theorem z_w7 (hT : ∀ j, j < ty → f j = ip j) (h60 : ty ≤ 60) {p cn : Nat} {cm : Nat → Int32} (hp : p < ty) (h0 : f p = 114) (h1 : p + 1 < ty ∧ f (p + 1) = 101) (hs : x_mo_sign ip ty (p + 2) = 112) : x_mo_word ip ty (p + 1) (-1) 114 = (112, (z_nds ip ty [101, 112, 108, 121] (p + 1) (-1)).1, (z_nds ip ty [101, 112, 108, 121] (p + 1) (-1)).2) := by
  unfold x_mo_word
  rw [if_neg (by decide), if_neg (by decide), if_neg (by decide), if_neg (by decide), if_pos rfl]
  unfold x_mo_again
  have e101 := z_need hT (by decide : (101 : Int32) ≠ -1) (p + 1)
  rw [if_pos h1] at e101
  have eN : z_nds ip ty [101, 112, 108, 121] (p + 1) (-1) = z_nds ip ty [112, 108, 121] (p + 1 + 1) (-1) := by
    show z_nds ip ty [112, 108, 121] (x_mo_needs ip ty (p + 1) (-1) 101).1 (x_mo_needs ip ty (p + 1) (-1) 101).2 = _
    rw [e101]
  rw [e101, eN]
  dsimp only
  rw [if_pos (by decide : (-1 : Int32) < 0)]
  rw [if_neg (fun c => absurd (hs.symm.trans c) (by decide)), if_pos hs]
  simp only [x_mo_letters, z_nds]
theorem z_w8 (hT : ∀ j, j < ty → f j = ip j) (h60 : ty ≤ 60) {p cn : Nat} {cm : Nat → Int32} (hp : p < ty) (h0 : f p = 98) : x_mo_word ip ty (p + 1) (-1) 98 = (98, (z_nds ip ty [97, 99, 107] (p + 1) (-1)).1, (z_nds ip ty [97, 99, 107] (p + 1) (-1)).2) := by
  unfold x_mo_word
  rw [if_pos rfl]
  simp only [x_mo_letters, z_nds]
theorem z_w9 (hT : ∀ j, j < ty → f j = ip j) (h60 : ty ≤ 60) {p cn : Nat} {cm : Nat → Int32} (hp : p < ty) (h0 : f p = 101) : x_mo_word ip ty (p + 1) (-1) 101 = (101, (z_nds ip ty [110, 100] (p + 1) (-1)).1, (z_nds ip ty [110, 100] (p + 1) (-1)).2) := by
  unfold x_mo_word
  rw [if_neg (by decide), if_neg (by decide), if_neg (by decide), if_pos rfl]
  simp only [x_mo_letters, z_nds]
theorem z_w10 (hT : ∀ j, j < ty → f j = ip j) (h60 : ty ≤ 60) {p cn : Nat} {cm : Nat → Int32} (hp : p < ty) (h0 : f p = 100) : x_mo_word ip ty (p + 1) (-1) 100 = (100, (z_nds ip ty [97, 121, 115] (p + 1) (-1)).1, (z_nds ip ty [97, 121, 115] (p + 1) (-1)).2) := by
  unfold x_mo_word
  rw [if_neg (by decide), if_neg (by decide), if_pos rfl]
  simp only [x_mo_letters, z_nds]
theorem z_k0 (hT : ∀ j, j < ty → f j = ip j) (h60 : ty ≤ 60) {p cn : Nat} {cm : Nat → Int32} (hp : p < ty) (h0 : f p = 97) (hs : ¬ x_mo_sign ip ty (p + 1) = 116) : z_cmd pc ty p 0 cn f ip cm := by
  have hs0 : x_mo_sign ip ty p = 97 := (if_neg (by omega)).trans ((hT p hp).symm.trans h0)
  have hf : x_mo_isFirst 97 = true := by decide
  have hw := z_w0 hT h60 (cn := cn) (cm := cm) hp h0 hs
  have hA := z_behA hT h60 (lw := [100, 100]) (by decide) (m := 1) (by decide) (p := p + 1) hp
  have hb := z_Ab (ty := ty) (f := f) (lw := [100, 100]) (m := 1) (p := p + 1) hp
  have hC := fun oa ob => z_cmA (pc := pc) (ty := ty) (f := f) (x0 := 97) (n := 63) (lw := [100, 100]) (r := []) (m := 1) (p := p) (by decide) (by decide) hp h0 oa ob
  have hl2 : p + 1 < ty ∧ f (p + 1) = 100 → p + 2 ≤ (z_A ty f [100, 100] 1 (p + 1)).2.1 := fun c => Nat.le_trans (z_lit2 c) hb.2.2.1
  have eC : x_mo_command ip ty p (-1) cm cn = ((x_mo_behind ip ty (z_nds ip ty [100, 100] (p + 1) (-1)).1 (z_nds ip ty [100, 100] (p + 1) (-1)).2 32 1).2.1, (x_mo_behind ip ty (z_nds ip ty [100, 100] (p + 1) (-1)).1 (z_nds ip ty [100, 100] (p + 1) (-1)).2 32 1).2.2, upd (upd (x_mo_command_24 cn 3 0 cm) (3 * cn) 97) (3 * cn + 1) (x_mo_behind ip ty (z_nds ip ty [100, 100] (p + 1) (-1)).1 (z_nds ip ty [100, 100] (p + 1) (-1)).2 32 1).1, cn + 1) := by
    unfold x_mo_command
    rw [hs0, hf, if_pos rfl, hw]
    dsimp only
    rw [if_pos rfl]
  unfold z_cmd
  rw [eC, hA]
  cases q : (z_A ty f [100, 100] 1 (p + 1)).1 with
  | true =>
    have h3 := hb.2.2.2 q
    refine Or.inl ⟨(z_A ty f [100, 100] 1 (p + 1)).2.1, (z_A ty f [100, 100] 1 (p + 1)).2.2, 0, 1, ?_, hb.2.1, fun oa ob => ?_, _, rfl, ?_, fun _ => upd_eq, fun c => absurd c (by decide), fun i hi => ?_⟩
    · have h3 : p + 1 + 2 + 1 ≤ (z_A ty f [100, 100] 1 (p + 1)).2.1 := h3
      omega
    · have h := hC oa ob
      rw [q, if_pos rfl] at h
      exact h
    · rw [upd_ne (by omega), upd_eq]
      rfl
    · rw [upd_ne (by omega), upd_ne (by omega)]
      exact z_cm24 hi
  | false =>
    refine Or.inr ⟨(z_A ty f [100, 100] 1 (p + 1)).2.1, hb.1, hb.2.1, hl2, fun oa ob => ⟨0, oa, ob, ?_⟩, _, _, rfl⟩
    have h := hC oa ob
    rw [q, if_neg Bool.false_ne_true] at h
    exact h
theorem z_k1 (hT : ∀ j, j < ty → f j = ip j) (h60 : ty ≤ 60) {p cn : Nat} {cm : Nat → Int32} (hp : p < ty) (h0 : f p = 114) (hs : ¬ ((p + 1 < ty ∧ f (p + 1) = 101) ∧ (x_mo_sign ip ty (p + 2) = 110 ∨ x_mo_sign ip ty (p + 2) = 112))) : z_cmd pc ty p 1 cn f ip cm := by
  have hs0 : x_mo_sign ip ty p = 114 := (if_neg (by omega)).trans ((hT p hp).symm.trans h0)
  have hf : x_mo_isFirst 114 = true := by decide
  have hw := z_w1 hT h60 (cn := cn) (cm := cm) hp h0 hs
  have hA := z_behA hT h60 (lw := [101, 109, 111, 118, 101]) (by decide) (m := 2) (by decide) (p := p + 1) hp
  have hb := z_Ab (ty := ty) (f := f) (lw := [101, 109, 111, 118, 101]) (m := 2) (p := p + 1) hp
  have hC := fun oa ob => z_cmA (pc := pc) (ty := ty) (f := f) (x0 := 114) (n := 35) (lw := [101, 109, 111, 118, 101]) (r := []) (m := 2) (p := p) (by decide) (by decide) hp h0 oa ob
  have hl2 : p + 1 < ty ∧ f (p + 1) = 101 → p + 2 ≤ (z_A ty f [101, 109, 111, 118, 101] 2 (p + 1)).2.1 := fun c => Nat.le_trans (z_lit2 c) hb.2.2.1
  have eC : x_mo_command ip ty p (-1) cm cn = ((x_mo_behind ip ty (z_nds ip ty [101, 109, 111, 118, 101] (p + 1) (-1)).1 (z_nds ip ty [101, 109, 111, 118, 101] (p + 1) (-1)).2 32 2).2.1, (x_mo_behind ip ty (z_nds ip ty [101, 109, 111, 118, 101] (p + 1) (-1)).1 (z_nds ip ty [101, 109, 111, 118, 101] (p + 1) (-1)).2 32 2).2.2, upd (upd (x_mo_command_24 cn 3 0 cm) (3 * cn) 109) (3 * cn + 1) (x_mo_behind ip ty (z_nds ip ty [101, 109, 111, 118, 101] (p + 1) (-1)).1 (z_nds ip ty [101, 109, 111, 118, 101] (p + 1) (-1)).2 32 2).1, cn + 1) := by
    unfold x_mo_command
    rw [hs0, hf, if_pos rfl, hw]
    dsimp only
    rw [if_neg (by decide), if_neg (by decide), if_neg (by decide), if_neg (by decide), if_neg (by decide), if_neg (by decide)]
  unfold z_cmd
  rw [eC, hA]
  cases q : (z_A ty f [101, 109, 111, 118, 101] 2 (p + 1)).1 with
  | true =>
    have h3 := hb.2.2.2 q
    refine Or.inl ⟨(z_A ty f [101, 109, 111, 118, 101] 2 (p + 1)).2.1, (z_A ty f [101, 109, 111, 118, 101] 2 (p + 1)).2.2, 0, 1, ?_, hb.2.1, fun oa ob => ?_, _, rfl, ?_, fun _ => upd_eq, fun c => absurd c (by decide), fun i hi => ?_⟩
    · have h3 : p + 1 + 5 + 1 ≤ (z_A ty f [101, 109, 111, 118, 101] 2 (p + 1)).2.1 := h3
      omega
    · have h := hC oa ob
      rw [q, if_pos rfl] at h
      exact h
    · rw [upd_ne (by omega), upd_eq]
      rfl
    · rw [upd_ne (by omega), upd_ne (by omega)]
      exact z_cm24 hi
  | false =>
    refine Or.inr ⟨(z_A ty f [101, 109, 111, 118, 101] 2 (p + 1)).2.1, hb.1, hb.2.1, hl2, fun oa ob => ⟨0, oa, ob, ?_⟩, _, _, rfl⟩
    have h := hC oa ob
    rw [q, if_neg Bool.false_ne_true] at h
    exact h
theorem z_k2 (hT : ∀ j, j < ty → f j = ip j) (h60 : ty ≤ 60) {p cn : Nat} {cm : Nat → Int32} (hp : p < ty) (h0 : f p = 97) (hs : x_mo_sign ip ty (p + 1) = 116) : z_cmd pc ty p 2 cn f ip cm := by
  have hs0 : x_mo_sign ip ty p = 97 := (if_neg (by omega)).trans ((hT p hp).symm.trans h0)
  have hf : x_mo_isFirst 97 = true := by decide
  have hw := z_w2 hT h60 (cn := cn) (cm := cm) hp h0 hs
  have hA := z_behA hT h60 (lw := [116, 116, 97, 99, 107]) (by decide) (m := 2) (by decide) (p := p + 1) hp
  have hb := z_Ab (ty := ty) (f := f) (lw := [116, 116, 97, 99, 107]) (m := 2) (p := p + 1) hp
  have hC := fun oa ob => z_cmA (pc := pc) (ty := ty) (f := f) (x0 := 97) (n := 35) (lw := [116, 116, 97, 99, 107]) (r := [62, 35]) (m := 2) (p := p) (by decide) (by decide) hp h0 oa ob
  have hl2 : p + 1 < ty ∧ f (p + 1) = 116 → p + 2 ≤ (z_A ty f [116, 116, 97, 99, 107] 2 (p + 1)).2.1 := fun c => Nat.le_trans (z_lit2 c) hb.2.2.1
  have eC : x_mo_command ip ty p (-1) cm cn = ((x_mo_behind ip ty (x_mo_behind ip ty (z_nds ip ty [116, 116, 97, 99, 107] (p + 1) (-1)).1 (z_nds ip ty [116, 116, 97, 99, 107] (p + 1) (-1)).2 32 2).2.1 (x_mo_behind ip ty (z_nds ip ty [116, 116, 97, 99, 107] (p + 1) (-1)).1 (z_nds ip ty [116, 116, 97, 99, 107] (p + 1) (-1)).2 32 2).2.2 62 2).2.1, (x_mo_behind ip ty (x_mo_behind ip ty (z_nds ip ty [116, 116, 97, 99, 107] (p + 1) (-1)).1 (z_nds ip ty [116, 116, 97, 99, 107] (p + 1) (-1)).2 32 2).2.1 (x_mo_behind ip ty (z_nds ip ty [116, 116, 97, 99, 107] (p + 1) (-1)).1 (z_nds ip ty [116, 116, 97, 99, 107] (p + 1) (-1)).2 32 2).2.2 62 2).2.2, upd (upd (upd (x_mo_command_24 cn 3 0 cm) (3 * cn) 116) (3 * cn + 1) (x_mo_behind ip ty (z_nds ip ty [116, 116, 97, 99, 107] (p + 1) (-1)).1 (z_nds ip ty [116, 116, 97, 99, 107] (p + 1) (-1)).2 32 2).1) (3 * cn + 2) (x_mo_behind ip ty (x_mo_behind ip ty (z_nds ip ty [116, 116, 97, 99, 107] (p + 1) (-1)).1 (z_nds ip ty [116, 116, 97, 99, 107] (p + 1) (-1)).2 32 2).2.1 (x_mo_behind ip ty (z_nds ip ty [116, 116, 97, 99, 107] (p + 1) (-1)).1 (z_nds ip ty [116, 116, 97, 99, 107] (p + 1) (-1)).2 32 2).2.2 62 2).1, cn + 1) := by
    unfold x_mo_command
    rw [hs0, hf, if_pos rfl, hw]
    dsimp only
    rw [if_neg (by decide), if_neg (by decide), if_neg (by decide), if_pos rfl]
  unfold z_cmd
  rw [eC, hA]
  cases q : (z_A ty f [116, 116, 97, 99, 107] 2 (p + 1)).1 with
  | true =>
    have h3 : p + 1 + 5 + 1 ≤ (z_A ty f [116, 116, 97, 99, 107] 2 (p + 1)).2.1 := hb.2.2.2 q
    have hB := z_behB hT h60 (x := 62) (by decide) (m := 2) (by decide) (p := (z_A ty f [116, 116, 97, 99, 107] 2 (p + 1)).2.1) hb.2.1
    have hbb := z_Bb (ty := ty) (f := f) (x := 62) (m := 2) (p := (z_A ty f [116, 116, 97, 99, 107] 2 (p + 1)).2.1) hb.2.1
    have hS := fun oa ob => z_cmS' (pc := pc) (ty := ty) (f := f) (x := 62) (n := 35) (m := 2) (r := []) (by decide) (by decide) (by decide) oa ob (z_A ty f [116, 116, 97, 99, 107] 2 (p + 1)).2.1
    rw [if_pos rfl]
    dsimp only
    rw [hB]
    cases q2 : (z_B ty f 62 2 (z_A ty f [116, 116, 97, 99, 107] 2 (p + 1)).2.1).1 with
    | true =>
      refine Or.inl ⟨(z_B ty f 62 2 (z_A ty f [116, 116, 97, 99, 107] 2 (p + 1)).2.1).2.1, (z_A ty f [116, 116, 97, 99, 107] 2 (p + 1)).2.2, (z_B ty f 62 2 (z_A ty f [116, 116, 97, 99, 107] 2 (p + 1)).2.1).2.2, 2, by omega, hbb.2, fun oa ob => ?_, _, rfl, ?_, fun _ => ?_, fun _ => upd_eq, fun i hi => ?_⟩
      · have h := hC oa ob
        rw [q, if_pos rfl, hS, q2, if_pos rfl] at h
        exact h
      · rw [upd_ne (by omega), upd_ne (by omega), upd_eq]
        rfl
      · rw [upd_ne (by omega), upd_eq]
      · rw [upd_ne (by omega), upd_ne (by omega), upd_ne (by omega)]
        exact z_cm24 hi
    | false =>
      refine Or.inr ⟨(z_B ty f 62 2 (z_A ty f [116, 116, 97, 99, 107] 2 (p + 1)).2.1).2.1, by omega, hbb.2, fun c => Nat.le_trans (hl2 c) hbb.1, fun oa ob => ⟨1, upd oa pc (z_A ty f [116, 116, 97, 99, 107] 2 (p + 1)).2.2, ob, ?_⟩, _, _, rfl⟩
      have h := hC oa ob
      rw [q, if_pos rfl, hS, q2, if_neg Bool.false_ne_true] at h
      exact h
  | false =>
    rw [if_neg Bool.false_ne_true]
    dsimp only
    rw [z_behE (nI_pos (by omega))]
    refine Or.inr ⟨(z_A ty f [116, 116, 97, 99, 107] 2 (p + 1)).2.1, hb.1, hb.2.1, hl2, fun oa ob => ⟨0, oa, ob, ?_⟩, _, _, rfl⟩
    have h := hC oa ob
    rw [q, if_neg Bool.false_ne_true] at h
    exact h
theorem z_k3 (hT : ∀ j, j < ty → f j = ip j) (h60 : ty ≤ 60) {p cn : Nat} {cm : Nat → Int32} (hp : p < ty) (h0 : f p = 121) : z_cmd pc ty p 3 cn f ip cm := by
  have hs0 : x_mo_sign ip ty p = 121 := (if_neg (by omega)).trans ((hT p hp).symm.trans h0)
  have hf : x_mo_isFirst 121 = true := by decide
  have hw := z_w3 hT h60 (cn := cn) (cm := cm) hp h0
  have hA := z_behA hT h60 (lw := [105, 101, 108, 100]) (by decide) (m := 2) (by decide) (p := p + 1) hp
  have hb := z_Ab (ty := ty) (f := f) (lw := [105, 101, 108, 100]) (m := 2) (p := p + 1) hp
  have hC := fun oa ob => z_cmA (pc := pc) (ty := ty) (f := f) (x0 := 121) (n := 35) (lw := [105, 101, 108, 100]) (r := [62, 35]) (m := 2) (p := p) (by decide) (by decide) hp h0 oa ob
  have hl2 : p + 1 < ty ∧ f (p + 1) = 105 → p + 2 ≤ (z_A ty f [105, 101, 108, 100] 2 (p + 1)).2.1 := fun c => Nat.le_trans (z_lit2 c) hb.2.2.1
  have eC : x_mo_command ip ty p (-1) cm cn = ((x_mo_behind ip ty (x_mo_behind ip ty (z_nds ip ty [105, 101, 108, 100] (p + 1) (-1)).1 (z_nds ip ty [105, 101, 108, 100] (p + 1) (-1)).2 32 2).2.1 (x_mo_behind ip ty (z_nds ip ty [105, 101, 108, 100] (p + 1) (-1)).1 (z_nds ip ty [105, 101, 108, 100] (p + 1) (-1)).2 32 2).2.2 62 2).2.1, (x_mo_behind ip ty (x_mo_behind ip ty (z_nds ip ty [105, 101, 108, 100] (p + 1) (-1)).1 (z_nds ip ty [105, 101, 108, 100] (p + 1) (-1)).2 32 2).2.1 (x_mo_behind ip ty (z_nds ip ty [105, 101, 108, 100] (p + 1) (-1)).1 (z_nds ip ty [105, 101, 108, 100] (p + 1) (-1)).2 32 2).2.2 62 2).2.2, upd (upd (upd (x_mo_command_24 cn 3 0 cm) (3 * cn) 121) (3 * cn + 1) (x_mo_behind ip ty (z_nds ip ty [105, 101, 108, 100] (p + 1) (-1)).1 (z_nds ip ty [105, 101, 108, 100] (p + 1) (-1)).2 32 2).1) (3 * cn + 2) (x_mo_behind ip ty (x_mo_behind ip ty (z_nds ip ty [105, 101, 108, 100] (p + 1) (-1)).1 (z_nds ip ty [105, 101, 108, 100] (p + 1) (-1)).2 32 2).2.1 (x_mo_behind ip ty (z_nds ip ty [105, 101, 108, 100] (p + 1) (-1)).1 (z_nds ip ty [105, 101, 108, 100] (p + 1) (-1)).2 32 2).2.2 62 2).1, cn + 1) := by
    unfold x_mo_command
    rw [hs0, hf, if_pos rfl, hw]
    dsimp only
    rw [if_neg (by decide), if_neg (by decide), if_neg (by decide), if_neg (by decide), if_neg (by decide), if_pos rfl]
  unfold z_cmd
  rw [eC, hA]
  cases q : (z_A ty f [105, 101, 108, 100] 2 (p + 1)).1 with
  | true =>
    have h3 : p + 1 + 4 + 1 ≤ (z_A ty f [105, 101, 108, 100] 2 (p + 1)).2.1 := hb.2.2.2 q
    have hB := z_behB hT h60 (x := 62) (by decide) (m := 2) (by decide) (p := (z_A ty f [105, 101, 108, 100] 2 (p + 1)).2.1) hb.2.1
    have hbb := z_Bb (ty := ty) (f := f) (x := 62) (m := 2) (p := (z_A ty f [105, 101, 108, 100] 2 (p + 1)).2.1) hb.2.1
    have hS := fun oa ob => z_cmS' (pc := pc) (ty := ty) (f := f) (x := 62) (n := 35) (m := 2) (r := []) (by decide) (by decide) (by decide) oa ob (z_A ty f [105, 101, 108, 100] 2 (p + 1)).2.1
    rw [if_pos rfl]
    dsimp only
    rw [hB]
    cases q2 : (z_B ty f 62 2 (z_A ty f [105, 101, 108, 100] 2 (p + 1)).2.1).1 with
    | true =>
      refine Or.inl ⟨(z_B ty f 62 2 (z_A ty f [105, 101, 108, 100] 2 (p + 1)).2.1).2.1, (z_A ty f [105, 101, 108, 100] 2 (p + 1)).2.2, (z_B ty f 62 2 (z_A ty f [105, 101, 108, 100] 2 (p + 1)).2.1).2.2, 2, by omega, hbb.2, fun oa ob => ?_, _, rfl, ?_, fun _ => ?_, fun _ => upd_eq, fun i hi => ?_⟩
      · have h := hC oa ob
        rw [q, if_pos rfl, hS, q2, if_pos rfl] at h
        exact h
      · rw [upd_ne (by omega), upd_ne (by omega), upd_eq]
        rfl
      · rw [upd_ne (by omega), upd_eq]
      · rw [upd_ne (by omega), upd_ne (by omega), upd_ne (by omega)]
        exact z_cm24 hi
    | false =>
      refine Or.inr ⟨(z_B ty f 62 2 (z_A ty f [105, 101, 108, 100] 2 (p + 1)).2.1).2.1, by omega, hbb.2, fun c => Nat.le_trans (hl2 c) hbb.1, fun oa ob => ⟨1, upd oa pc (z_A ty f [105, 101, 108, 100] 2 (p + 1)).2.2, ob, ?_⟩, _, _, rfl⟩
      have h := hC oa ob
      rw [q, if_pos rfl, hS, q2, if_neg Bool.false_ne_true] at h
      exact h
  | false =>
    rw [if_neg Bool.false_ne_true]
    dsimp only
    rw [z_behE (nI_pos (by omega))]
    refine Or.inr ⟨(z_A ty f [105, 101, 108, 100] 2 (p + 1)).2.1, hb.1, hb.2.1, hl2, fun oa ob => ⟨0, oa, ob, ?_⟩, _, _, rfl⟩
    have h := hC oa ob
    rw [q, if_neg Bool.false_ne_true] at h
    exact h
theorem z_k4 (hT : ∀ j, j < ty → f j = ip j) (h60 : ty ≤ 60) {p cn : Nat} {cm : Nat → Int32} (hp : p < ty) (h0 : f p = 119) : z_cmd pc ty p 4 cn f ip cm := by
  have hs0 : x_mo_sign ip ty p = 119 := (if_neg (by omega)).trans ((hT p hp).symm.trans h0)
  have hf : x_mo_isFirst 119 = true := by decide
  have hw := z_w4 hT h60 (cn := cn) (cm := cm) hp h0
  have hA := z_behA hT h60 (lw := [101, 105, 103, 104]) (by decide) (m := 2) (by decide) (p := p + 1) hp
  have hb := z_Ab (ty := ty) (f := f) (lw := [101, 105, 103, 104]) (m := 2) (p := p + 1) hp
  have hC := fun oa ob => z_cmA (pc := pc) (ty := ty) (f := f) (x0 := 119) (n := 35) (lw := [101, 105, 103, 104]) (r := [32, 63]) (m := 2) (p := p) (by decide) (by decide) hp h0 oa ob
  have hl2 : p + 1 < ty ∧ f (p + 1) = 101 → p + 2 ≤ (z_A ty f [101, 105, 103, 104] 2 (p + 1)).2.1 := fun c => Nat.le_trans (z_lit2 c) hb.2.2.1
  have eC : x_mo_command ip ty p (-1) cm cn = ((x_mo_behind ip ty (x_mo_behind ip ty (z_nds ip ty [101, 105, 103, 104] (p + 1) (-1)).1 (z_nds ip ty [101, 105, 103, 104] (p + 1) (-1)).2 32 2).2.1 (x_mo_behind ip ty (z_nds ip ty [101, 105, 103, 104] (p + 1) (-1)).1 (z_nds ip ty [101, 105, 103, 104] (p + 1) (-1)).2 32 2).2.2 32 1).2.1, (x_mo_behind ip ty (x_mo_behind ip ty (z_nds ip ty [101, 105, 103, 104] (p + 1) (-1)).1 (z_nds ip ty [101, 105, 103, 104] (p + 1) (-1)).2 32 2).2.1 (x_mo_behind ip ty (z_nds ip ty [101, 105, 103, 104] (p + 1) (-1)).1 (z_nds ip ty [101, 105, 103, 104] (p + 1) (-1)).2 32 2).2.2 32 1).2.2, upd (upd (upd (x_mo_command_24 cn 3 0 cm) (3 * cn) 119) (3 * cn + 1) (x_mo_behind ip ty (z_nds ip ty [101, 105, 103, 104] (p + 1) (-1)).1 (z_nds ip ty [101, 105, 103, 104] (p + 1) (-1)).2 32 2).1) (3 * cn + 2) (x_mo_behind ip ty (x_mo_behind ip ty (z_nds ip ty [101, 105, 103, 104] (p + 1) (-1)).1 (z_nds ip ty [101, 105, 103, 104] (p + 1) (-1)).2 32 2).2.1 (x_mo_behind ip ty (z_nds ip ty [101, 105, 103, 104] (p + 1) (-1)).1 (z_nds ip ty [101, 105, 103, 104] (p + 1) (-1)).2 32 2).2.2 32 1).1, cn + 1) := by
    unfold x_mo_command
    rw [hs0, hf, if_pos rfl, hw]
    dsimp only
    rw [if_neg (by decide), if_neg (by decide), if_neg (by decide), if_neg (by decide), if_pos rfl]
  unfold z_cmd
  rw [eC, hA]
  cases q : (z_A ty f [101, 105, 103, 104] 2 (p + 1)).1 with
  | true =>
    have h3 : p + 1 + 4 + 1 ≤ (z_A ty f [101, 105, 103, 104] 2 (p + 1)).2.1 := hb.2.2.2 q
    have hB := z_behB hT h60 (x := 32) (by decide) (m := 1) (by decide) (p := (z_A ty f [101, 105, 103, 104] 2 (p + 1)).2.1) hb.2.1
    have hbb := z_Bb (ty := ty) (f := f) (x := 32) (m := 1) (p := (z_A ty f [101, 105, 103, 104] 2 (p + 1)).2.1) hb.2.1
    have hS := fun oa ob => z_cmS' (pc := pc) (ty := ty) (f := f) (x := 32) (n := 63) (m := 1) (r := []) (by decide) (by decide) (by decide) oa ob (z_A ty f [101, 105, 103, 104] 2 (p + 1)).2.1
    rw [if_pos rfl]
    dsimp only
    rw [hB]
    cases q2 : (z_B ty f 32 1 (z_A ty f [101, 105, 103, 104] 2 (p + 1)).2.1).1 with
    | true =>
      refine Or.inl ⟨(z_B ty f 32 1 (z_A ty f [101, 105, 103, 104] 2 (p + 1)).2.1).2.1, (z_A ty f [101, 105, 103, 104] 2 (p + 1)).2.2, (z_B ty f 32 1 (z_A ty f [101, 105, 103, 104] 2 (p + 1)).2.1).2.2, 2, by omega, hbb.2, fun oa ob => ?_, _, rfl, ?_, fun _ => ?_, fun _ => upd_eq, fun i hi => ?_⟩
      · have h := hC oa ob
        rw [q, if_pos rfl, hS, q2, if_pos rfl] at h
        exact h
      · rw [upd_ne (by omega), upd_ne (by omega), upd_eq]
        rfl
      · rw [upd_ne (by omega), upd_eq]
      · rw [upd_ne (by omega), upd_ne (by omega), upd_ne (by omega)]
        exact z_cm24 hi
    | false =>
      refine Or.inr ⟨(z_B ty f 32 1 (z_A ty f [101, 105, 103, 104] 2 (p + 1)).2.1).2.1, by omega, hbb.2, fun c => Nat.le_trans (hl2 c) hbb.1, fun oa ob => ⟨1, upd oa pc (z_A ty f [101, 105, 103, 104] 2 (p + 1)).2.2, ob, ?_⟩, _, _, rfl⟩
      have h := hC oa ob
      rw [q, if_pos rfl, hS, q2, if_neg Bool.false_ne_true] at h
      exact h
  | false =>
    rw [if_neg Bool.false_ne_true]
    dsimp only
    rw [z_behE (nI_pos (by omega))]
    refine Or.inr ⟨(z_A ty f [101, 105, 103, 104] 2 (p + 1)).2.1, hb.1, hb.2.1, hl2, fun oa ob => ⟨0, oa, ob, ?_⟩, _, _, rfl⟩
    have h := hC oa ob
    rw [q, if_neg Bool.false_ne_true] at h
    exact h
theorem z_k5 (hT : ∀ j, j < ty → f j = ip j) (h60 : ty ≤ 60) {p cn : Nat} {cm : Nat → Int32} (hp : p < ty) (h0 : f p = 114) (h1 : p + 1 < ty ∧ f (p + 1) = 101) (hs : x_mo_sign ip ty (p + 2) = 110) : z_cmd pc ty p 5 cn f ip cm := by
  have hs0 : x_mo_sign ip ty p = 114 := (if_neg (by omega)).trans ((hT p hp).symm.trans h0)
  have hf : x_mo_isFirst 114 = true := by decide
  have hw := z_w5 hT h60 (cn := cn) (cm := cm) hp h0 h1 hs
  have hA := z_behA hT h60 (lw := [101, 110, 101, 119]) (by decide) (m := 2) (by decide) (p := p + 1) hp
  have hb := z_Ab (ty := ty) (f := f) (lw := [101, 110, 101, 119]) (m := 2) (p := p + 1) hp
  have hC := fun oa ob => z_cmA (pc := pc) (ty := ty) (f := f) (x0 := 114) (n := 35) (lw := [101, 110, 101, 119]) (r := []) (m := 2) (p := p) (by decide) (by decide) hp h0 oa ob
  have hl2 : p + 1 < ty ∧ f (p + 1) = 101 → p + 2 ≤ (z_A ty f [101, 110, 101, 119] 2 (p + 1)).2.1 := fun c => Nat.le_trans (z_lit2 c) hb.2.2.1
  have eC : x_mo_command ip ty p (-1) cm cn = ((x_mo_behind ip ty (z_nds ip ty [101, 110, 101, 119] (p + 1) (-1)).1 (z_nds ip ty [101, 110, 101, 119] (p + 1) (-1)).2 32 2).2.1, (x_mo_behind ip ty (z_nds ip ty [101, 110, 101, 119] (p + 1) (-1)).1 (z_nds ip ty [101, 110, 101, 119] (p + 1) (-1)).2 32 2).2.2, upd (upd (x_mo_command_24 cn 3 0 cm) (3 * cn) 110) (3 * cn + 1) (x_mo_behind ip ty (z_nds ip ty [101, 110, 101, 119] (p + 1) (-1)).1 (z_nds ip ty [101, 110, 101, 119] (p + 1) (-1)).2 32 2).1, cn + 1) := by
    unfold x_mo_command
    rw [hs0, hf, if_pos rfl, hw]
    dsimp only
    rw [if_neg (by decide), if_neg (by decide), if_neg (by decide), if_neg (by decide), if_neg (by decide), if_neg (by decide)]
  unfold z_cmd
  rw [eC, hA]
  cases q : (z_A ty f [101, 110, 101, 119] 2 (p + 1)).1 with
  | true =>
    have h3 := hb.2.2.2 q
    refine Or.inl ⟨(z_A ty f [101, 110, 101, 119] 2 (p + 1)).2.1, (z_A ty f [101, 110, 101, 119] 2 (p + 1)).2.2, 0, 1, ?_, hb.2.1, fun oa ob => ?_, _, rfl, ?_, fun _ => upd_eq, fun c => absurd c (by decide), fun i hi => ?_⟩
    · have h3 : p + 1 + 4 + 1 ≤ (z_A ty f [101, 110, 101, 119] 2 (p + 1)).2.1 := h3
      omega
    · have h := hC oa ob
      rw [q, if_pos rfl] at h
      exact h
    · rw [upd_ne (by omega), upd_eq]
      rfl
    · rw [upd_ne (by omega), upd_ne (by omega)]
      exact z_cm24 hi
  | false =>
    refine Or.inr ⟨(z_A ty f [101, 110, 101, 119] 2 (p + 1)).2.1, hb.1, hb.2.1, hl2, fun oa ob => ⟨0, oa, ob, ?_⟩, _, _, rfl⟩
    have h := hC oa ob
    rw [q, if_neg Bool.false_ne_true] at h
    exact h
theorem z_k6 (hT : ∀ j, j < ty → f j = ip j) (h60 : ty ≤ 60) {p cn : Nat} {cm : Nat → Int32} (hp : p < ty) (h0 : f p = 99) : z_cmd pc ty p 6 cn f ip cm := by
  have hs0 : x_mo_sign ip ty p = 99 := (if_neg (by omega)).trans ((hT p hp).symm.trans h0)
  have hf : x_mo_isFirst 99 = true := by decide
  have hw := z_w6 hT h60 (cn := cn) (cm := cm) hp h0
  have hA := z_behA hT h60 (lw := [108, 97, 105, 109]) (by decide) (m := 2) (by decide) (p := p + 1) hp
  have hb := z_Ab (ty := ty) (f := f) (lw := [108, 97, 105, 109]) (m := 2) (p := p + 1) hp
  have hC := fun oa ob => z_cmA (pc := pc) (ty := ty) (f := f) (x0 := 99) (n := 35) (lw := [108, 97, 105, 109]) (r := []) (m := 2) (p := p) (by decide) (by decide) hp h0 oa ob
  have hl2 : p + 1 < ty ∧ f (p + 1) = 108 → p + 2 ≤ (z_A ty f [108, 97, 105, 109] 2 (p + 1)).2.1 := fun c => Nat.le_trans (z_lit2 c) hb.2.2.1
  have eC : x_mo_command ip ty p (-1) cm cn = ((x_mo_behind ip ty (z_nds ip ty [108, 97, 105, 109] (p + 1) (-1)).1 (z_nds ip ty [108, 97, 105, 109] (p + 1) (-1)).2 32 2).2.1, (x_mo_behind ip ty (z_nds ip ty [108, 97, 105, 109] (p + 1) (-1)).1 (z_nds ip ty [108, 97, 105, 109] (p + 1) (-1)).2 32 2).2.2, upd (upd (x_mo_command_24 cn 3 0 cm) (3 * cn) 99) (3 * cn + 1) (x_mo_behind ip ty (z_nds ip ty [108, 97, 105, 109] (p + 1) (-1)).1 (z_nds ip ty [108, 97, 105, 109] (p + 1) (-1)).2 32 2).1, cn + 1) := by
    unfold x_mo_command
    rw [hs0, hf, if_pos rfl, hw]
    dsimp only
    rw [if_neg (by decide), if_neg (by decide), if_neg (by decide), if_neg (by decide), if_neg (by decide), if_neg (by decide)]
  unfold z_cmd
  rw [eC, hA]
  cases q : (z_A ty f [108, 97, 105, 109] 2 (p + 1)).1 with
  | true =>
    have h3 := hb.2.2.2 q
    refine Or.inl ⟨(z_A ty f [108, 97, 105, 109] 2 (p + 1)).2.1, (z_A ty f [108, 97, 105, 109] 2 (p + 1)).2.2, 0, 1, ?_, hb.2.1, fun oa ob => ?_, _, rfl, ?_, fun _ => upd_eq, fun c => absurd c (by decide), fun i hi => ?_⟩
    · have h3 : p + 1 + 4 + 1 ≤ (z_A ty f [108, 97, 105, 109] 2 (p + 1)).2.1 := h3
      omega
    · have h := hC oa ob
      rw [q, if_pos rfl] at h
      exact h
    · rw [upd_ne (by omega), upd_eq]
      rfl
    · rw [upd_ne (by omega), upd_ne (by omega)]
      exact z_cm24 hi
  | false =>
    refine Or.inr ⟨(z_A ty f [108, 97, 105, 109] 2 (p + 1)).2.1, hb.1, hb.2.1, hl2, fun oa ob => ⟨0, oa, ob, ?_⟩, _, _, rfl⟩
    have h := hC oa ob
    rw [q, if_neg Bool.false_ne_true] at h
    exact h
theorem z_k7 (hT : ∀ j, j < ty → f j = ip j) (h60 : ty ≤ 60) {p cn : Nat} {cm : Nat → Int32} (hp : p < ty) (h0 : f p = 114) (h1 : p + 1 < ty ∧ f (p + 1) = 101) (hs : x_mo_sign ip ty (p + 2) = 112) : z_cmd pc ty p 7 cn f ip cm := by
  have hs0 : x_mo_sign ip ty p = 114 := (if_neg (by omega)).trans ((hT p hp).symm.trans h0)
  have hf : x_mo_isFirst 114 = true := by decide
  have hw := z_w7 hT h60 (cn := cn) (cm := cm) hp h0 h1 hs
  have hA := z_behA hT h60 (lw := [101, 112, 108, 121]) (by decide) (m := 2) (by decide) (p := p + 1) hp
  have hb := z_Ab (ty := ty) (f := f) (lw := [101, 112, 108, 121]) (m := 2) (p := p + 1) hp
  have hC := fun oa ob => z_cmA (pc := pc) (ty := ty) (f := f) (x0 := 114) (n := 35) (lw := [101, 112, 108, 121]) (r := []) (m := 2) (p := p) (by decide) (by decide) hp h0 oa ob
  have hl2 : p + 1 < ty ∧ f (p + 1) = 101 → p + 2 ≤ (z_A ty f [101, 112, 108, 121] 2 (p + 1)).2.1 := fun c => Nat.le_trans (z_lit2 c) hb.2.2.1
  have eC : x_mo_command ip ty p (-1) cm cn = ((x_mo_behind ip ty (z_nds ip ty [101, 112, 108, 121] (p + 1) (-1)).1 (z_nds ip ty [101, 112, 108, 121] (p + 1) (-1)).2 32 2).2.1, (x_mo_behind ip ty (z_nds ip ty [101, 112, 108, 121] (p + 1) (-1)).1 (z_nds ip ty [101, 112, 108, 121] (p + 1) (-1)).2 32 2).2.2, upd (upd (x_mo_command_24 cn 3 0 cm) (3 * cn) 112) (3 * cn + 1) (x_mo_behind ip ty (z_nds ip ty [101, 112, 108, 121] (p + 1) (-1)).1 (z_nds ip ty [101, 112, 108, 121] (p + 1) (-1)).2 32 2).1, cn + 1) := by
    unfold x_mo_command
    rw [hs0, hf, if_pos rfl, hw]
    dsimp only
    rw [if_neg (by decide), if_neg (by decide), if_neg (by decide), if_neg (by decide), if_neg (by decide), if_neg (by decide)]
  unfold z_cmd
  rw [eC, hA]
  cases q : (z_A ty f [101, 112, 108, 121] 2 (p + 1)).1 with
  | true =>
    have h3 := hb.2.2.2 q
    refine Or.inl ⟨(z_A ty f [101, 112, 108, 121] 2 (p + 1)).2.1, (z_A ty f [101, 112, 108, 121] 2 (p + 1)).2.2, 0, 1, ?_, hb.2.1, fun oa ob => ?_, _, rfl, ?_, fun _ => upd_eq, fun c => absurd c (by decide), fun i hi => ?_⟩
    · have h3 : p + 1 + 4 + 1 ≤ (z_A ty f [101, 112, 108, 121] 2 (p + 1)).2.1 := h3
      omega
    · have h := hC oa ob
      rw [q, if_pos rfl] at h
      exact h
    · rw [upd_ne (by omega), upd_eq]
      rfl
    · rw [upd_ne (by omega), upd_ne (by omega)]
      exact z_cm24 hi
  | false =>
    refine Or.inr ⟨(z_A ty f [101, 112, 108, 121] 2 (p + 1)).2.1, hb.1, hb.2.1, hl2, fun oa ob => ⟨0, oa, ob, ?_⟩, _, _, rfl⟩
    have h := hC oa ob
    rw [q, if_neg Bool.false_ne_true] at h
    exact h
theorem z_k8 (hT : ∀ j, j < ty → f j = ip j) (h60 : ty ≤ 60) {p cn : Nat} {cm : Nat → Int32} (hp : p < ty) (h0 : f p = 98) : z_cmd pc ty p 8 cn f ip cm := by
  have hs0 : x_mo_sign ip ty p = 98 := (if_neg (by omega)).trans ((hT p hp).symm.trans h0)
  have hf : x_mo_isFirst 98 = true := by decide
  have hw := z_w8 hT h60 (cn := cn) (cm := cm) hp h0
  have eC : x_mo_command ip ty p (-1) cm cn = ((z_nds ip ty [97, 99, 107] (p + 1) (-1)).1, (z_nds ip ty [97, 99, 107] (p + 1) (-1)).2, upd (x_mo_command_24 cn 3 0 cm) (3 * cn) 98, cn + 1) := by
    unfold x_mo_command
    rw [hs0, hf, if_pos rfl, hw]
    dsimp only
    rw [if_neg (by decide), if_pos rfl]
  have eP : ∀ oa ob, z_cm pc ty f (q_pat 8) oa ob 0 p = ((z_lit ty f [97, 99, 107] (p + 1)).1, (z_lit ty f [97, 99, 107] (p + 1)).2, 0, oa, ob) := fun oa ob => by
    have eL : z_lit ty f [98, 97, 99, 107] p = z_lit ty f [97, 99, 107] (p + 1) := if_pos ⟨hp, h0⟩
    have h := z_cm_lit (pc := pc) (ty := ty) (f := f) (r := []) (po := 0) (oa := oa) (ob := ob) [98, 97, 99, 107] p (by decide)
    rw [List.append_nil, eL] at h
    refine Eq.trans h ?_
    cases q : (z_lit ty f [97, 99, 107] (p + 1)).1 <;> rfl
  have hN := z_ndsL hT h60 [97, 99, 107] (p + 1) hp (by decide)
  have hge := z_litge (ty := ty) (f := f) [97, 99, 107] (p + 1)
  have hle := z_litle (f := f) [97, 99, 107] (p + 1) hp
  have hok := z_litok (ty := ty) (f := f) [97, 99, 107] (p + 1)
  unfold z_cmd
  rw [eC, hN]
  cases q : (z_lit ty f [97, 99, 107] (p + 1)).1 with
  | true =>
    have h3 := hok q
    refine Or.inl ⟨(z_lit ty f [97, 99, 107] (p + 1)).2, 0, 0, 0, ?_, hle, fun oa ob => by rw [eP, q]; rfl, _, rfl, upd_eq, fun c => absurd c (by decide), fun c => absurd c (by decide), fun i hi => ?_⟩
    · rw [h3]
      show p + 3 ≤ p + 1 + 3
      omega
    · rw [upd_ne (by omega)]
      exact z_cm24 hi
  | false =>
    exact Or.inr ⟨(z_lit ty f [97, 99, 107] (p + 1)).2, hge, hle, fun c => z_lit2 c, fun oa ob => ⟨0, oa, ob, by rw [eP, q]⟩, _, _, rfl⟩
theorem z_k9 (hT : ∀ j, j < ty → f j = ip j) (h60 : ty ≤ 60) {p cn : Nat} {cm : Nat → Int32} (hp : p < ty) (h0 : f p = 101) : z_cmd pc ty p 9 cn f ip cm := by
  have hs0 : x_mo_sign ip ty p = 101 := (if_neg (by omega)).trans ((hT p hp).symm.trans h0)
  have hf : x_mo_isFirst 101 = true := by decide
  have hw := z_w9 hT h60 (cn := cn) (cm := cm) hp h0
  have eC : x_mo_command ip ty p (-1) cm cn = ((z_nds ip ty [110, 100] (p + 1) (-1)).1, (z_nds ip ty [110, 100] (p + 1) (-1)).2, upd (x_mo_command_24 cn 3 0 cm) (3 * cn) 101, cn + 1) := by
    unfold x_mo_command
    rw [hs0, hf, if_pos rfl, hw]
    dsimp only
    rw [if_neg (by decide), if_neg (by decide), if_pos rfl]
  have eP : ∀ oa ob, z_cm pc ty f (q_pat 9) oa ob 0 p = ((z_lit ty f [110, 100] (p + 1)).1, (z_lit ty f [110, 100] (p + 1)).2, 0, oa, ob) := fun oa ob => by
    have eL : z_lit ty f [101, 110, 100] p = z_lit ty f [110, 100] (p + 1) := if_pos ⟨hp, h0⟩
    have h := z_cm_lit (pc := pc) (ty := ty) (f := f) (r := []) (po := 0) (oa := oa) (ob := ob) [101, 110, 100] p (by decide)
    rw [List.append_nil, eL] at h
    refine Eq.trans h ?_
    cases q : (z_lit ty f [110, 100] (p + 1)).1 <;> rfl
  have hN := z_ndsL hT h60 [110, 100] (p + 1) hp (by decide)
  have hge := z_litge (ty := ty) (f := f) [110, 100] (p + 1)
  have hle := z_litle (f := f) [110, 100] (p + 1) hp
  have hok := z_litok (ty := ty) (f := f) [110, 100] (p + 1)
  unfold z_cmd
  rw [eC, hN]
  cases q : (z_lit ty f [110, 100] (p + 1)).1 with
  | true =>
    have h3 := hok q
    refine Or.inl ⟨(z_lit ty f [110, 100] (p + 1)).2, 0, 0, 0, ?_, hle, fun oa ob => by rw [eP, q]; rfl, _, rfl, upd_eq, fun c => absurd c (by decide), fun c => absurd c (by decide), fun i hi => ?_⟩
    · rw [h3]
      show p + 3 ≤ p + 1 + 2
      omega
    · rw [upd_ne (by omega)]
      exact z_cm24 hi
  | false =>
    exact Or.inr ⟨(z_lit ty f [110, 100] (p + 1)).2, hge, hle, fun c => z_lit2 c, fun oa ob => ⟨0, oa, ob, by rw [eP, q]⟩, _, _, rfl⟩
theorem z_k10 (hT : ∀ j, j < ty → f j = ip j) (h60 : ty ≤ 60) {p cn : Nat} {cm : Nat → Int32} (hp : p < ty) (h0 : f p = 100) : z_cmd pc ty p 10 cn f ip cm := by
  have hs0 : x_mo_sign ip ty p = 100 := (if_neg (by omega)).trans ((hT p hp).symm.trans h0)
  have hf : x_mo_isFirst 100 = true := by decide
  have hw := z_w10 hT h60 (cn := cn) (cm := cm) hp h0
  have hA := z_behA hT h60 (lw := [97, 121, 115]) (by decide) (m := 2) (by decide) (p := p + 1) hp
  have hb := z_Ab (ty := ty) (f := f) (lw := [97, 121, 115]) (m := 2) (p := p + 1) hp
  have hC := fun oa ob => z_cmA (pc := pc) (ty := ty) (f := f) (x0 := 100) (n := 35) (lw := [97, 121, 115]) (r := []) (m := 2) (p := p) (by decide) (by decide) hp h0 oa ob
  have hl2 : p + 1 < ty ∧ f (p + 1) = 97 → p + 2 ≤ (z_A ty f [97, 121, 115] 2 (p + 1)).2.1 := fun c => Nat.le_trans (z_lit2 c) hb.2.2.1
  have eC : x_mo_command ip ty p (-1) cm cn = ((x_mo_behind ip ty (z_nds ip ty [97, 121, 115] (p + 1) (-1)).1 (z_nds ip ty [97, 121, 115] (p + 1) (-1)).2 32 2).2.1, (x_mo_behind ip ty (z_nds ip ty [97, 121, 115] (p + 1) (-1)).1 (z_nds ip ty [97, 121, 115] (p + 1) (-1)).2 32 2).2.2, upd (upd (x_mo_command_24 cn 3 0 cm) (3 * cn) 100) (3 * cn + 1) (x_mo_behind ip ty (z_nds ip ty [97, 121, 115] (p + 1) (-1)).1 (z_nds ip ty [97, 121, 115] (p + 1) (-1)).2 32 2).1, cn + 1) := by
    unfold x_mo_command
    rw [hs0, hf, if_pos rfl, hw]
    dsimp only
    rw [if_neg (by decide), if_neg (by decide), if_neg (by decide), if_neg (by decide), if_neg (by decide), if_neg (by decide)]
  unfold z_cmd
  rw [eC, hA]
  cases q : (z_A ty f [97, 121, 115] 2 (p + 1)).1 with
  | true =>
    have h3 := hb.2.2.2 q
    refine Or.inl ⟨(z_A ty f [97, 121, 115] 2 (p + 1)).2.1, (z_A ty f [97, 121, 115] 2 (p + 1)).2.2, 0, 1, ?_, hb.2.1, fun oa ob => ?_, _, rfl, ?_, fun _ => upd_eq, fun c => absurd c (by decide), fun i hi => ?_⟩
    · have h3 : p + 1 + 3 + 1 ≤ (z_A ty f [97, 121, 115] 2 (p + 1)).2.1 := h3
      omega
    · have h := hC oa ob
      rw [q, if_pos rfl] at h
      exact h
    · rw [upd_ne (by omega), upd_eq]
      rfl
    · rw [upd_ne (by omega), upd_ne (by omega)]
      exact z_cm24 hi
  | false =>
    refine Or.inr ⟨(z_A ty f [97, 121, 115] 2 (p + 1)).2.1, hb.1, hb.2.1, hl2, fun oa ob => ⟨0, oa, ob, ?_⟩, _, _, rfl⟩
    have h := hC oa ob
    rw [q, if_neg Bool.false_ne_true] at h
    exact h
end CMD