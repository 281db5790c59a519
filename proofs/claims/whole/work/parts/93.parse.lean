section PARSE
variable {pc ty : Nat} {f ip : Nat → Int32}
/-- a pattern read part by part -/
def z_cm (pc cn : Nat) (f : Nat → Int32) : List Int32 → (Nat → Int32) → (Nat → Int32) → Int32 → Nat → Bool × Nat × Int32 × (Nat → Int32) × (Nat → Int32)
  | [], oa, ob, po, pp => (true, pp, po, oa, ob)
  | x :: r, oa, ob, po, pp => match x_pr_readPart pc pp po oa ob cn f x with
    | (v, pp', po', oa', ob') => if v then z_cm pc cn f r oa' ob' po' pp' else (false, pp', po', oa', ob')
theorem z_chat : ∀ k, k < 11 → ∀ j, j < 10 → x_J0_charAt k j = (q_pat k).getD j 0 := by decide +kernel
theorem z_cm7 {k : Nat} (hk : k < 11) : ∀ r kk oa ob po pp, kk + r = (q_pat k).length → (match x_pr_readPattern_7 pc ty f k r kk oa ob po pp with | .inl (a4_0, a4_1, a4_2, a4_3) => (true, a4_3, a4_2, a4_0, a4_1) | .inr zz => zz) = z_cm pc ty f ((q_pat k).drop kk) oa ob po pp := by
  have h10 := z_patlen k
  intro r
  induction r with
  | zero =>
    intro kk oa ob po pp h
    rw [List.drop_of_length_le (by omega)]
    rfl
  | succ r ih =>
    intro kk oa ob po pp h
    have hd : (q_pat k).drop kk = (q_pat k).getD kk 0 :: (q_pat k).drop (kk + 1) := by
      rw [List.drop_eq_getElem_cons (by omega)]
      congr 1
      rw [List.getD_eq_getElem?_getD, List.getElem?_eq_getElem (by omega)]
      rfl
    rw [hd]
    simp only [x_pr_readPattern_7, z_cm]
    rw [z_chat k hk kk (by omega)]
    generalize x_pr_readPart pc pp po oa ob ty f ((q_pat k).getD kk 0) = q
    obtain ⟨v, pp', po', oa', ob'⟩ := q
    dsimp only
    cases v with
    | true =>
      rw [if_pos rfl, if_pos rfl]
      exact ih (kk + 1) oa' ob' po' pp' (by omega)
    | false => rfl
theorem z_cmEq {k : Nat} (hk : k < 11) (oa ob : Nat → Int32) (pp : Nat) : x_pr_readPattern pc pp oa ob ty f k = z_cm pc ty f (q_pat k) oa ob 0 pp :=
  (z_cm7 hk (q_pat k).length 0 oa ob 0 pp (by omega)).trans (by rw [List.drop_zero])
/-- letters read one by one -/
def z_lit (cn : Nat) (f : Nat → Int32) : List Int32 → Nat → Bool × Nat
  | [], p => (true, p)
  | x :: r, p => if p < cn ∧ f p = x then z_lit cn f r (p + 1) else (false, p)
theorem z_litge : ∀ l p, p ≤ (z_lit ty f l p).2 := by
  intro l
  induction l with
  | nil =>
    intro p
    exact Nat.le_refl p
  | cons x r ih =>
    intro p
    simp only [z_lit]
    split
    · exact Nat.le_trans (Nat.le_succ p) (ih (p + 1))
    · exact Nat.le_refl p
theorem z_litle : ∀ l p, p ≤ ty → (z_lit ty f l p).2 ≤ ty := by
  intro l
  induction l with
  | nil =>
    intro p h
    exact h
  | cons x r ih =>
    intro p h
    simp only [z_lit]
    split
    · next q => exact ih (p + 1) q.1
    · exact h
theorem z_litok : ∀ l p, (z_lit ty f l p).1 = true → (z_lit ty f l p).2 = p + l.length := by
  intro l
  induction l with
  | nil =>
    intro p _
    rfl
  | cons x r ih =>
    intro p h
    simp only [z_lit] at h ⊢
    by_cases q : p < ty ∧ f p = x
    · rw [if_pos q] at h ⊢
      rw [ih (p + 1) h, List.length_cons]
      omega
    · rw [if_neg q] at h
      cases h
theorem z_rd1 {x : Int32} (h1 : x ≠ 35) (h2 : x ≠ 63) {pp : Nat} {po : Int32} {oa ob : Nat → Int32} : x_pr_readPart pc pp po oa ob ty f x = if pp < ty ∧ f pp = x then (true, pp + 1, po, oa, ob) else (false, pp, po, oa, ob) := by
  unfold x_pr_readPart x_pr_readCharacter
  rw [if_neg h1, if_neg h2]
  by_cases a : ty ≤ pp
  · rw [if_pos a, if_neg (fun q => by omega)]
  · rw [if_neg a]
    by_cases b : f pp = x
    · rw [if_pos b, if_pos ⟨by omega, b⟩]
    · rw [if_neg b, if_neg (fun q => b q.2)]
theorem z_cm_lit {r : List Int32} {po : Int32} {oa ob : Nat → Int32} : ∀ l pp, (∀ x ∈ l, x ≠ 35 ∧ x ≠ 63) → z_cm pc ty f (l ++ r) oa ob po pp = if (z_lit ty f l pp).1 then z_cm pc ty f r oa ob po (z_lit ty f l pp).2 else (false, (z_lit ty f l pp).2, po, oa, ob) := by
  intro l
  induction l with
  | nil =>
    intro pp _
    rfl
  | cons x l ih =>
    intro pp h
    have hx := h x List.mem_cons_self
    have eL : z_lit ty f (x :: l) pp = if pp < ty ∧ f pp = x then z_lit ty f l (pp + 1) else (false, pp) := rfl
    have eC : z_cm pc ty f (x :: l ++ r) oa ob po pp = (match x_pr_readPart pc pp po oa ob ty f x with
      | (v, pp', po', oa', ob') => if v then z_cm pc ty f (l ++ r) oa' ob' po' pp' else (false, pp', po', oa', ob')) := rfl
    rw [eC, z_rd1 hx.1 hx.2]
    by_cases q : pp < ty ∧ f pp = x
    · rw [if_pos q] at eL
      rw [if_pos q, eL]
      dsimp only
      rw [if_pos rfl]
      exact ih (pp + 1) (fun y hy => h y (List.mem_cons_of_mem _ hy))
    · rw [if_neg q] at eL
      rw [if_neg q, eL]
      rfl
/-- a number of at most m digits: value, digits, where it ends -/
def z_nm (ty : Nat) (f : Nat → Int32) (m p : Nat) : Int32 × Nat × Nat := x_pr_readNumber_5 ty f m 0 0 p
theorem z_nm5 : ∀ r k c p, (x_pr_readNumber_5 ty f r k c p).2.2 = p + ((x_pr_readNumber_5 ty f r k c p).2.1 - k) ∧ k ≤ (x_pr_readNumber_5 ty f r k c p).2.1 ∧ (p ≤ ty → (x_pr_readNumber_5 ty f r k c p).2.2 ≤ ty) := by
  intro r
  induction r with
  | zero =>
    intro k c p
    simp only [x_pr_readNumber_5]
    exact ⟨(by show p = p + (k - k); omega), Nat.le_refl k, fun h => h⟩
  | succ r ih =>
    intro k c p
    simp only [x_pr_readNumber_5]
    split
    · exact ⟨(by show p = p + (k - k); omega), Nat.le_refl k, fun h => h⟩
    · split
      · obtain ⟨h1, h2, h3⟩ := ih (k + 1) (c * 10 + (f p - 48)) (p + 1)
        exact ⟨by omega, by omega, fun h => h3 (by omega)⟩
      · exact ⟨(by show p = p + (k - k); omega), Nat.le_refl k, fun h => h⟩
theorem z_nm0 {m p : Nat} (h : (z_nm ty f m p).2.1 = 0) : (z_nm ty f m p).2.2 = p := by
  have q := (z_nm5 (ty := ty) (f := f) m 0 0 p).1
  unfold z_nm at h ⊢
  omega
theorem z_nmle {m p : Nat} (h : p ≤ ty) : p ≤ (z_nm ty f m p).2.2 ∧ (z_nm ty f m p).2.2 ≤ ty := by
  obtain ⟨q1, q2, q3⟩ := z_nm5 (ty := ty) (f := f) m 0 0 p
  unfold z_nm
  exact ⟨by omega, q3 h⟩
theorem z_dig {x : Int32} : x_pr_isDigit x = x_mo_in x 48 57 := by
  unfold x_pr_isDigit x_mo_in
  rfl
theorem z_rd35 {pp : Nat} {oa ob : Nat → Int32} : x_pr_readPart pc pp 0 oa ob ty f 35 = (if (z_nm ty f 2 pp).2.1 = 0 then (false, pp, 0, oa, ob) else (true, (z_nm ty f 2 pp).2.2, 1, upd oa pc (z_nm ty f 2 pp).1, ob)) := by
  have u : x_pr_readPart pc pp 0 oa ob ty f 35 = (if (z_nm ty f 2 pp).2.1 = 0 then (false, (z_nm ty f 2 pp).2.2, 0, oa, ob) else (true, (z_nm ty f 2 pp).2.2, 0 + 1, upd oa pc (z_nm ty f 2 pp).1, ob)) := by
    unfold x_pr_readPart x_pr_readNumber z_nm
    rw [if_pos rfl]
    generalize x_pr_readNumber_5 ty f 2 0 0 pp = q
    obtain ⟨a, b, c⟩ := q
    dsimp only
    by_cases e : b = 0
    · rw [if_pos e, if_pos e]
    · rw [if_neg e, if_neg e]
      rfl
  rw [u]
  by_cases e : (z_nm ty f 2 pp).2.1 = 0
  · rw [if_pos e, if_pos e, z_nm0 e]
  · rw [if_neg e, if_neg e]
    rfl
theorem z_rd35' {pp : Nat} {oa ob : Nat → Int32} : x_pr_readPart pc pp 1 oa ob ty f 35 = (if (z_nm ty f 2 pp).2.1 = 0 then (false, pp, 1, oa, ob) else (true, (z_nm ty f 2 pp).2.2, 2, oa, upd ob pc (z_nm ty f 2 pp).1)) := by
  have u : x_pr_readPart pc pp 1 oa ob ty f 35 = (if (z_nm ty f 2 pp).2.1 = 0 then (false, (z_nm ty f 2 pp).2.2, 1, oa, ob) else (true, (z_nm ty f 2 pp).2.2, 1 + 1, oa, upd ob pc (z_nm ty f 2 pp).1)) := by
    unfold x_pr_readPart x_pr_readNumber z_nm
    rw [if_pos rfl]
    generalize x_pr_readNumber_5 ty f 2 0 0 pp = q
    obtain ⟨a, b, c⟩ := q
    dsimp only
    by_cases e : b = 0
    · rw [if_pos e, if_pos e]
    · rw [if_neg e, if_neg e]
      rfl
  rw [u]
  by_cases e : (z_nm ty f 2 pp).2.1 = 0
  · rw [if_pos e, if_pos e, z_nm0 e]
  · rw [if_neg e, if_neg e]
    rfl
theorem z_rd63 {pp : Nat} {oa ob : Nat → Int32} : x_pr_readPart pc pp 0 oa ob ty f 63 = (if (z_nm ty f 1 pp).2.1 = 0 then (false, pp, 0, oa, ob) else (true, (z_nm ty f 1 pp).2.2, 1, upd oa pc (z_nm ty f 1 pp).1, ob)) := by
  have u : x_pr_readPart pc pp 0 oa ob ty f 63 = (if (z_nm ty f 1 pp).2.1 = 0 then (false, (z_nm ty f 1 pp).2.2, 0, oa, ob) else (true, (z_nm ty f 1 pp).2.2, 0 + 1, upd oa pc (z_nm ty f 1 pp).1, ob)) := by
    unfold x_pr_readPart x_pr_readNumber z_nm
    rw [if_neg (by decide), if_pos rfl]
    generalize x_pr_readNumber_5 ty f 1 0 0 pp = q
    obtain ⟨a, b, c⟩ := q
    dsimp only
    by_cases e : b = 0
    · rw [if_pos e, if_pos e]
    · rw [if_neg e, if_neg e]
      rfl
  rw [u]
  by_cases e : (z_nm ty f 1 pp).2.1 = 0
  · rw [if_pos e, if_pos e, z_nm0 e]
  · rw [if_neg e, if_neg e]
    rfl
theorem z_rd63' {pp : Nat} {oa ob : Nat → Int32} : x_pr_readPart pc pp 1 oa ob ty f 63 = (if (z_nm ty f 1 pp).2.1 = 0 then (false, pp, 1, oa, ob) else (true, (z_nm ty f 1 pp).2.2, 2, oa, upd ob pc (z_nm ty f 1 pp).1)) := by
  have u : x_pr_readPart pc pp 1 oa ob ty f 63 = (if (z_nm ty f 1 pp).2.1 = 0 then (false, (z_nm ty f 1 pp).2.2, 1, oa, ob) else (true, (z_nm ty f 1 pp).2.2, 1 + 1, oa, upd ob pc (z_nm ty f 1 pp).1)) := by
    unfold x_pr_readPart x_pr_readNumber z_nm
    rw [if_neg (by decide), if_pos rfl]
    generalize x_pr_readNumber_5 ty f 1 0 0 pp = q
    obtain ⟨a, b, c⟩ := q
    dsimp only
    by_cases e : b = 0
    · rw [if_pos e, if_pos e]
    · rw [if_neg e, if_neg e]
      rfl
  rw [u]
  by_cases e : (z_nm ty f 1 pp).2.1 = 0
  · rw [if_pos e, if_pos e, z_nm0 e]
  · rw [if_neg e, if_neg e]
    rfl
/-! the reference's reading -/
theorem z_need (hT : ∀ j, j < ty → f j = ip j) {x : Int32} (hx : x ≠ -1) (p : Nat) : x_mo_needs ip ty p (-1) x = if p < ty ∧ f p = x then (p + 1, -1) else (p, nI p) := by
  unfold x_mo_needs x_mo_sign
  rw [if_pos (by decide : (-1 : Int32) < 0)]
  by_cases a : ty ≤ p
  · rw [if_pos a, if_neg (fun q => hx q.symm), if_neg (fun q => by omega)]
  · rw [if_neg a, ← hT p (by omega)]
    by_cases b : f p = x
    · rw [if_pos b, if_pos ⟨by omega, b⟩]
    · rw [if_neg b, if_neg (fun q => b q.2)]
theorem z_needE {x er : Int32} {p : Nat} (h : ¬ er < 0) : x_mo_needs ip ty p er x = (p, er) := by
  unfold x_mo_needs
  rw [if_neg h]
def z_nds (ip : Nat → Int32) (ty : Nat) : List Int32 → Nat → Int32 → Nat × Int32
  | [], he, er => (he, er)
  | x :: r, he, er => z_nds ip ty r (x_mo_needs ip ty he er x).1 (x_mo_needs ip ty he er x).2
theorem z_ndsE {er : Int32} (h : ¬ er < 0) : ∀ l p, z_nds ip ty l p er = (p, er) := by
  intro l
  induction l with
  | nil =>
    intro p
    rfl
  | cons x r ih =>
    intro p
    show z_nds ip ty r (x_mo_needs ip ty p er x).1 (x_mo_needs ip ty p er x).2 = _
    rw [z_needE h]
    exact ih p
theorem z_ndsL (hT : ∀ j, j < ty → f j = ip j) (h60 : ty ≤ 60) : ∀ l p, p ≤ ty → (∀ x ∈ l, x ≠ -1) → z_nds ip ty l p (-1) = if (z_lit ty f l p).1 then ((z_lit ty f l p).2, -1) else ((z_lit ty f l p).2, nI (z_lit ty f l p).2) := by
  intro l
  induction l with
  | nil =>
    intro p _ _
    rfl
  | cons x r ih =>
    intro p hp h
    show z_nds ip ty r (x_mo_needs ip ty p (-1) x).1 (x_mo_needs ip ty p (-1) x).2 = _
    rw [z_need hT (h x List.mem_cons_self)]
    have eL : z_lit ty f (x :: r) p = if p < ty ∧ f p = x then z_lit ty f r (p + 1) else (false, p) := rfl
    by_cases q : p < ty ∧ f p = x
    · rw [if_pos q] at eL
      rw [if_pos q, eL]
      exact ih (p + 1) q.1 (fun y hy => h y (List.mem_cons_of_mem _ hy))
    · rw [if_neg q] at eL
      rw [if_neg q, eL]
      exact z_ndsE (nI_pos (by omega)) r p
theorem z_num43 (hT : ∀ j, j < ty → f j = ip j) : ∀ r k c p, x_mo_behind_43 ip ty r k c p = ((x_pr_readNumber_5 ty f r k c p).1, (x_pr_readNumber_5 ty f r k c p).2.2) := by
  intro r
  induction r with
  | zero =>
    intro k c p
    rfl
  | succ r ih =>
    intro k c p
    simp only [x_mo_behind_43, x_pr_readNumber_5]
    by_cases a : ty ≤ p
    · have es : x_mo_sign ip ty p = -1 := if_pos a
      rw [es, if_pos a, if_neg (by decide)]
    · have es : x_mo_sign ip ty p = f p := (if_neg a).trans (hT p (by omega)).symm
      rw [es, if_neg a, z_dig]
      have e : ((10 : Int32) * c + f p) - 48 = c * 10 + (f p - 48) := by
        rw [Int32.mul_comm, Int32.sub_eq_add_neg, Int32.sub_eq_add_neg, Int32.add_assoc]
      rw [e]
      split
      · exact ih _ _ _
      · rfl
theorem z_cnt0 {m p : Nat} (hm : 0 < m) : (z_nm ty f m p).2.1 = 0 ↔ ¬ (p < ty ∧ x_pr_isDigit (f p) = true) := by
  obtain ⟨r, rfl⟩ : ∃ r, m = r + 1 := ⟨m - 1, by omega⟩
  unfold z_nm
  simp only [x_pr_readNumber_5]
  by_cases a : ty ≤ p
  · rw [if_pos a]
    exact ⟨fun _ q => by omega, fun _ => rfl⟩
  · rw [if_neg a]
    by_cases b : x_pr_isDigit (f p) = true
    · rw [if_pos b]
      have h := (z_nm5 (ty := ty) (f := f) r (0 + 1) (0 * 10 + (f p - 48)) (p + 1)).2.1
      exact ⟨fun q => by omega, fun q => absurd ⟨by omega, b⟩ q⟩
    · rw [if_neg b]
      exact ⟨fun _ q => b q.2, fun _ => rfl⟩
theorem z_beh (hT : ∀ j, j < ty → f j = ip j) (h60 : ty ≤ 60) {x : Int32} (hx : x ≠ -1) {m : Nat} (hm : 0 < m) {p : Nat} (hp : p ≤ ty) : x_mo_behind ip ty p (-1) x m = if p < ty ∧ f p = x then (if (z_nm ty f m (p + 1)).2.1 = 0 then (0, p + 1, nI (p + 1)) else ((z_nm ty f m (p + 1)).1, (z_nm ty f m (p + 1)).2.2, -1)) else (0, p, nI p) := by
  unfold x_mo_behind
  rw [z_need hT hx]
  by_cases q : p < ty ∧ f p = x
  · rw [if_pos q, if_pos q]
    dsimp only
    rw [if_pos (by decide : (-1 : Int32) < 0), z_num43 hT]
    have hc := z_cnt0 (ty := ty) (f := f) (p := p + 1) hm
    have hs : x_mo_in (x_mo_sign ip ty (p + 1)) 48 57 = true ↔ (p + 1 < ty ∧ x_pr_isDigit (f (p + 1)) = true) := by
      by_cases a : ty ≤ p + 1
      · have es : x_mo_sign ip ty (p + 1) = -1 := if_pos a
        rw [es]
        exact ⟨fun c => absurd c (by decide), fun c => by omega⟩
      · have es : x_mo_sign ip ty (p + 1) = f (p + 1) := (if_neg a).trans (hT (p + 1) (by omega)).symm
        rw [es, z_dig]
        exact ⟨fun c => ⟨by omega, c⟩, fun c => c.2⟩
    by_cases d : p + 1 < ty ∧ x_pr_isDigit (f (p + 1)) = true
    · rw [if_pos (hs.mpr d), if_neg (fun c => hc.mp c d)]
      rfl
    · rw [if_neg (fun c => d (hs.mp c)), if_pos (hc.mpr d)]
  · rw [if_neg q, if_neg q]
    dsimp only
    rw [if_neg (nI_pos (by omega))]
theorem z_behE {x er : Int32} {m p : Nat} (h : ¬ er < 0) : x_mo_behind ip ty p er x m = (0, p, er) := by
  unfold x_mo_behind
  rw [z_needE h]
  dsimp only
  rw [if_neg h]
end PARSE
