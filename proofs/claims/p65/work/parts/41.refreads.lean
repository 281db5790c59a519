theorem z_dn_lt {r : Nat} (hr : r ≤ 1000) : z_dn r < 0 ↔ r = 0 := by
  cases r with
  | zero => exact ⟨fun _ => rfl, fun _ => by decide⟩
  | succ k => exact ⟨fun q => absurd q (nI_pos (by omega)), fun q => by omega⟩
theorem z_notge {x : Int32} (h : ¬ 0 ≤ x) : x < 0 := by
  rw [Int32.lt_iff_toInt_lt]
  rw [Int32.le_iff_toInt_le] at h
  omega
theorem z_gelt {x : Int32} (h : 0 ≤ x) : ¬ x < 0 := by
  rw [Int32.lt_iff_toInt_lt]
  rw [Int32.le_iff_toInt_le] at h
  omega
theorem z_dn_pos {r : Nat} (h : ¬ r = 0) : z_dn r = nI (r - 1) := by
  obtain ⟨k, rfl⟩ : ∃ k, r = k + 1 := ⟨r - 1, by omega⟩
  rfl
def x_mo_in (xv : Int32) (xa : Int32) (xb : Int32) : Bool := (if (xv) < (xa) then false else (if (xb) < (xv) then false else true))
def x_mo_thrown (th : Int32) : Int32 := th
def x_mo_isFine (xb : Bool) : (Bool) × (Int32) := (if xb then (xb, 0) else (xb, 1))
def x_mo_a (al : Nat → Int32) (j : Nat) (w : Nat) : Int32 := al (7 + (3 * j) + w)
def x_mo_place_2 (al : Nat → Int32) (xid : Int32) : Nat → Nat → (Unit) ⊕ (Int32)
  | 0, _ => .inl ()
  | r + 1, k => (if (al (7 + 3 * k + 0)) = (xid) then .inr (nI (k)) else x_mo_place_2 al xid r (k + 1) )
def x_mo_place (al : Nat → Int32) (n : Nat) (xid : Int32) : Int32 := (match x_mo_place_2 al xid n 0 with | .inl () => -1 | .inr zz => zz)
/-- one more than the place of an id; 0: none -/
def x_pl_2 (al : Nat → Int32) (xid : Int32) : Nat → Nat → Nat
  | 0, _ => 0
  | r + 1, k => if al (7 + 3 * k + 0) = xid then k + 1 else x_pl_2 al xid r (k + 1)
def x_pl (n : Nat) (al : Nat → Int32) (xid : Int32) : Nat := x_pl_2 al xid n 0
theorem x_pl_2_le {al : Nat → Int32} {xid : Int32} : ∀ r k, x_pl_2 al xid r k ≤ k + r := by
  intro r
  induction r with
  | zero => intro k; simp only [x_pl_2]; omega
  | succ r ih =>
    intro k
    simp only [x_pl_2]
    have := ih (k + 1)
    split <;> omega
theorem x_pl_le {n : Nat} {al : Nat → Int32} {xid : Int32} : x_pl n al xid ≤ n := by
  have := x_pl_2_le (al := al) (xid := xid) n 0
  unfold x_pl
  omega
theorem x_place_2 {al : Nat → Int32} {xid : Int32} : ∀ r k, (match x_mo_place_2 al xid r k with | .inl () => (-1 : Int32) | .inr zz => zz) = z_dn (x_pl_2 al xid r k) := by
  intro r
  induction r with
  | zero => intro k; rfl
  | succ r ih =>
    intro k
    simp only [x_mo_place_2, x_pl_2]
    by_cases c : al (7 + 3 * k + 0) = xid
    · simp only [if_pos c]
      rfl
    · simp only [if_neg c]
      exact ih (k + 1)
def x_mo_isThere (al : Nat → Int32) (n : Nat) (xid : Int32) : Bool := (if x_pl n al xid = 0 then false else true)
/-- whether an id is there -/
def x_th (n : Nat) (al : Nat → Int32) (xid : Int32) : Bool := decide (0 < x_pl n al xid)
theorem z_th {n : Nat} {al : Nat → Int32} {xid : Int32} (h : x_th n al xid = true) : 0 < x_pl n al xid := of_decide_eq_true h
theorem z_nth {n : Nat} {al : Nat → Int32} {xid : Int32} (h : ¬ x_th n al xid = true) : x_pl n al xid = 0 := by
  unfold x_th at h
  exact Nat.eq_zero_of_not_pos (fun q => h (decide_eq_true q))
def x_mo_strength (al : Nat → Int32) (j : Nat) : Int32 := (if (1 : Int32) ≤ ((al (7 + 3 * j + 1)) - ((al (7 + 3 * j + 2)) / (10 : Int32))) then (al (7 + 3 * j + 1)) - ((al (7 + 3 * j + 2)) / (10 : Int32)) else 1)
def x_mo_isAttack (al : Nat → Int32) (i : Nat) (j : Nat) : Bool := (if (((al (31 + i)) >>> ((nI (j)) &&& 31)) &&& (1 : Int32)) = (1) then true else false)
def x_mo_wins (al : Nat → Int32) (i : Nat) (j : Nat) : Bool := (if x_mo_isAttack al i j then (if (x_mo_strength al i) < (x_mo_strength al j) then false else true) else false)
def x_mo_size_4 (xs : Int32) : Nat → Nat → (Int32) → (Int32)
  | 0, _, c4_1 => c4_1
  | r + 1, k, c4_1 => x_mo_size_4 xs r (k + 1) (c4_1 + ((xs >>> ((nI (k)) &&& 31)) &&& (1 : Int32)))
def x_mo_size (xs : Int32) : Int32 := (let a1_0 := x_mo_size_4 xs 8 0 0; a1_0)
def x_mo_attacks_4 (al : Nat → Int32) : Nat → Nat → (Int32) → (Int32)
  | 0, _, c4_1 => c4_1
  | r + 1, k, c4_1 => x_mo_attacks_4 al r (k + 1) (c4_1 + (x_mo_size (al (31 + k))))
def x_mo_attacks (al : Nat → Int32) (n : Nat) : Int32 := (let a1_0 := x_mo_attacks_4 al n 0 0; a1_0)
def x_mo_attackers_4 (al : Nat → Int32) (j : Nat) : Nat → Nat → (Int32) → (Int32)
  | 0, _, c4_2 => c4_2
  | r + 1, k, c4_2 => (if x_mo_wins al k j then x_mo_attackers_4 al j r (k + 1) (c4_2 ||| ((1 : Int32) <<< ((nI (k)) &&& 31))) else x_mo_attackers_4 al j r (k + 1) (c4_2 ||| (0 : Int32)))
def x_mo_attackers (al : Nat → Int32) (n : Nat) (j : Nat) : Int32 := (let a1_0 := x_mo_attackers_4 al j n 0 0; a1_0)
def x_mo_labelOf (ac : Int32) (rj : Int32) (j : Nat) : Int32 := (if ((ac >>> ((nI (j)) &&& 31)) &&& (1 : Int32)) = (1) then 97 else (if ((rj >>> ((nI (j)) &&& 31)) &&& (1 : Int32)) = (1) then 114 else 117))
def x_mo_attackedBy_4 (al : Nat → Int32) (n : Nat) (xs : Int32) : Nat → Nat → (Int32) → (Int32)
  | 0, _, c4_2 => c4_2
  | r + 1, k, c4_2 => (if ((x_mo_attackers al n k) &&& xs) = (0) then x_mo_attackedBy_4 al n xs r (k + 1) (c4_2 ||| (0 : Int32)) else x_mo_attackedBy_4 al n xs r (k + 1) (c4_2 ||| ((1 : Int32) <<< ((nI (k)) &&& 31))))
def x_mo_attackedBy (al : Nat → Int32) (n : Nat) (xs : Int32) : Int32 := (let a1_0 := x_mo_attackedBy_4 al n xs n 0 0; a1_0)
def x_mo_attackersOf_4 (al : Nat → Int32) (n : Nat) (xs : Int32) : Nat → Nat → (Int32) → (Int32)
  | 0, _, c4_2 => c4_2
  | r + 1, k, c4_2 => (if ((xs >>> ((nI (k)) &&& 31)) &&& (1 : Int32)) = (1) then x_mo_attackersOf_4 al n xs r (k + 1) (c4_2 ||| (x_mo_attackers al n k)) else x_mo_attackersOf_4 al n xs r (k + 1) (c4_2 ||| (0 : Int32)))
def x_mo_attackersOf (al : Nat → Int32) (n : Nat) (xs : Int32) : Int32 := (let a1_0 := x_mo_attackersOf_4 al n xs n 0 0; a1_0)
def x_mo_isFree (al : Nat → Int32) (n : Nat) (xs : Int32) : Bool := (if ((x_mo_attackersOf al n xs) &&& xs) = (0) then true else false)
def x_mo_isAdmissible (al : Nat → Int32) (n : Nat) (xs : Int32) : Bool := (if x_mo_isFree al n xs then (if ((x_mo_attackersOf al n xs) &&& ((x_mo_attackedBy al n xs) ^^^ (-1 : Int32))) = (0) then true else false) else false)
def x_mo_sets (n : Nat) : Nat := 2 ^ n
def x_mo_findsAdmissible_2 (al : Nat → Int32) (n : Nat) : Nat → Nat → (Nat → Int32) → (Nat → Int32)
  | 0, _, ad_2 => ad_2
  | r + 1, k, ad_2 => x_mo_findsAdmissible_2 al n r (k + 1) (upd ad_2 k (z_b (x_mo_isAdmissible al n (nI (k)))))
def x_mo_findsAdmissible (al : Nat → Int32) (ad : Nat → Int32) (n : Nat) : (Nat → Int32) := (let a4_0 := x_mo_findsAdmissible_2 al n (2 ^ n) 0 ad; (a4_0))
/-- all bytes are 0 or 1 -/
def z_01 (f : Nat → Int32) : Prop := ∀ i, f i = 0 ∨ f i = 1
theorem z_01.upd {f : Nat → Int32} (h : z_01 f) (k : Nat) (b : Bool) : z_01 (upd f k (z_b b)) := fun i => by
  by_cases e : i = k
  · subst e
    rw [pk_us]
    exact z_b01 b
  · rw [pk_un e]
    exact h i
theorem z_fa01_2 {n : Nat} {al : Nat → Int32} : ∀ (r k : Nat) (ad : Nat → Int32), z_01 ad → z_01 (x_mo_findsAdmissible_2 al n r k ad) := by
  intro r
  induction r with
  | zero => intro k ad h; exact h
  | succ r ih =>
    intro k ad h
    simp only [x_mo_findsAdmissible_2]
    exact ih _ _ (h.upd _ _)
theorem z_fa01 {n : Nat} {al ad : Nat → Int32} (h : z_01 ad) : z_01 (x_mo_findsAdmissible al ad n) := z_fa01_2 _ _ _ h
theorem z_01nar {x : Int32} (h : x = 0 ∨ x = 1) : narrow .boolean (.int x) = .int x := by
  rcases h with rfl | rfl <;> rfl
def x_mo_isPreferred_9 (ad : Nat → Int32) (m : Nat) : Nat → Nat → (Int32) → (Int32)
  | 0, _, c9_2 => c9_2
  | r + 1, k, c9_2 => (if (c9_2) = (0) then c9_2 else (if k = m then x_mo_isPreferred_9 ad m r (k + 1) 1 else (if ((nI (k)) &&& (nI (m))) = (nI (m)) then (if (ad k) = (0) then x_mo_isPreferred_9 ad m r (k + 1) 1 else x_mo_isPreferred_9 ad m r (k + 1) 0) else x_mo_isPreferred_9 ad m r (k + 1) 1)))
theorem z_isp01 {ad : Nat → Int32} {m : Nat} : ∀ (r k : Nat) (c : Int32), (c = 0 ∨ c = 1) → (x_mo_isPreferred_9 ad m r k c = 0 ∨ x_mo_isPreferred_9 ad m r k c = 1) := by
  intro r
  induction r with
  | zero => intro k c h; exact h
  | succ r ih =>
    intro k c h
    simp only [x_mo_isPreferred_9]
    repeat' split
    all_goals first | exact ih _ _ (Or.inl rfl) | exact ih _ _ (Or.inr rfl) | exact ih _ _ h | exact h
def x_mo_isPreferred (ad : Nat → Int32) (n : Nat) (m : Nat) : Int32 := (let a4_0 := x_mo_isPreferred_9 ad m (2 ^ n) 0 (ad m); a4_0)
def x_mo_preferredWith_8 (n : Nat) (xs : Int32) (y1_ad : Nat → Int32) : Nat → Nat → (Int32) → (Int32)
  | 0, _, c8_2 => c8_2
  | r + 1, k, c8_2 => (if ((nI (k)) &&& xs) = (xs) then (if (x_mo_isPreferred y1_ad n k) = (0) then x_mo_preferredWith_8 n xs y1_ad r (k + 1) (c8_2 + (0 : Int32)) else x_mo_preferredWith_8 n xs y1_ad r (k + 1) (c8_2 + (1 : Int32))) else x_mo_preferredWith_8 n xs y1_ad r (k + 1) (c8_2 + (0 : Int32)))
def x_mo_preferredWith (al : Nat → Int32) (ad : Nat → Int32) (n : Nat) (xs : Int32) : (Int32) × (Nat → Int32) := (let y1_ad := x_mo_findsAdmissible al ad n; (let a6_0 := x_mo_preferredWith_8 n xs y1_ad (2 ^ n) 0 0; (a6_0, y1_ad)))
def x_mo_told (al : Nat → Int32) (w : Nat) : (Int32) × (Int32) := (al w, 0)
