/-! rules with natural numbers; forgetting; posts of methods that change cells -/
section PVX
variable {g : q_G} {M : q_M} {d mc ms : Nat} {Q : q_O → q_H → Prop} {kc ks pc : Nat} {ls st : List Value} {h : q_H}
theorem q_forget (i : Nat) (kk : q_W g M d mc ms Q kc ks pc (ls.set i q_u) st h) : q_W g M d mc ms Q kc ks pc ls st h := by
  intro p e s m args below meth c H locs mls X hR hS hL
  refine kk p e s m args below meth c H locs mls X hR hS ⟨hL.1, by rw [List.length_set]; exact hL.2.1, hL.2.2.1, fun j v hj hu => ?_⟩
  by_cases hji : j = i
  · subst hji
    by_cases hl : j < ls.length
    · rw [List.getElem?_set_self hl] at hj
      exact absurd (Option.some.inj hj).symm hu
    · rw [List.getElem?_eq_none (by rw [List.length_set]; omega)] at hj
      cases hj
  · rw [List.getElem?_set_ne (fun q => hji q.symm)] at hj
    exact hL.2.2.2 j v hj hu
theorem q_iaddN {a b : Nat} (hd : decode M.2.1 pc = .ok (.iadd, 1)) (kk : q_W g M d mc ms Q kc ks (pc + 1) ls (.int (nI (a + b)) :: st) h) : q_W g M d mc ms Q kc ks pc ls (.int (nI b) :: .int (nI a) :: st) h :=
  q_iadd hd (by rw [nI_add]; exact kk)
theorem q_imulN {a b : Nat} (hd : decode M.2.1 pc = .ok (.imul, 1)) (kk : q_W g M d mc ms Q kc ks (pc + 1) ls (.int (nI (a * b)) :: st) h) : q_W g M d mc ms Q kc ks pc ls (.int (nI b) :: .int (nI a) :: st) h :=
  q_imul hd (by rw [pk_mul]; exact kk)
theorem q_isubN {a b : Nat} (hb : b ≤ a) (hd : decode M.2.1 pc = .ok (.isub, 1)) (kk : q_W g M d mc ms Q kc ks (pc + 1) ls (.int (nI (a - b)) :: st) h) : q_W g M d mc ms Q kc ks pc ls (.int (nI b) :: .int (nI a) :: st) h :=
  q_isub hd (by rw [pk_sub hb]; exact kk)
theorem q_idivN {a b : Nat} (ha : a < 2 ^ 31) (h0 : 0 < b) (hb : b < 2 ^ 31) (hd : decode M.2.1 pc = .ok (.idiv, 1)) (kk : q_W g M d mc ms Q kc ks (pc + 1) ls (.int (nI (a / b)) :: st) h) : q_W g M d mc ms Q kc ks pc ls (.int (nI b) :: .int (nI a) :: st) h :=
  q_idiv hd (fun q => by have := (nI_eq (b := 0) hb (by decide)).mp q; omega) (by rw [pk_div ha h0 hb]; exact kk)
theorem q_iremN {a b : Nat} (ha : a < 2 ^ 31) (h0 : 0 < b) (hb : b < 2 ^ 31) (hd : decode M.2.1 pc = .ok (.irem, 1)) (kk : q_W g M d mc ms Q kc ks (pc + 1) ls (.int (nI (a % b)) :: st) h) : q_W g M d mc ms Q kc ks pc ls (.int (nI b) :: .int (nI a) :: st) h :=
  q_irem hd (fun q => by have := (nI_eq (b := 0) hb (by decide)).mp q; omega) (by rw [pk_rem ha h0 hb]; exact kk)
theorem q_m1 {a : Nat} (h1 : 1 ≤ a) : nI a + Int32.ofInt (-1) = nI (a - 1) := by
  obtain ⟨b, rfl⟩ : ∃ b, a = b + 1 := ⟨a - 1, by omega⟩
  rw [← nI_1, Nat.add_sub_cancel, Int32.add_assoc]
  exact Int32.add_zero _
def z_b (b : Bool) : Int32 := if b then 1 else 0
theorem z_genW {H : q_H} {B : q_H → Prop} (b : B H) (k : ∀ h1, B h1 → q_W g M d mc ms Q kc ks pc ls st h1) : q_W g M d mc ms Q kc ks pc ls st H := k H b
theorem z_b_nar (b : Bool) : narrow .boolean (.int (z_b b)) = .int (z_b b) := by cases b <;> rfl
theorem z_b0n {b : Bool} (h : z_b b = 0) : ¬ b = true := by cases b <;> simp_all [z_b]
theorem z_b1 {b : Bool} (h : ¬ z_b b = 0) : b = true := by cases b <;> simp_all [z_b]
theorem z_b01 (b : Bool) : z_b b = 0 ∨ z_b b = 1 := by cases b <;> simp [z_b]
theorem z_bfit (b : Bool) : q_fit .boolean (.int (z_b b)) := by cases b <;> exact ⟨rfl, rfl⟩
theorem z_bt : z_b true = 1 := rfl
theorem z_bf : z_b false = 0 := rfl
theorem z_b1e {b : Bool} (h : z_b b = 1) : b = true := by cases b <;> simp_all [z_b]
theorem z_b1n {b : Bool} (h : ¬ z_b b = 1) : ¬ b = true := by cases b <;> simp_all [z_b]
theorem z_bb {a b : Bool} (h : z_b a = z_b b) : a = b := by cases a <;> cases b <;> simp_all [z_b]
theorem z_bbn {a b : Bool} (h : ¬ z_b a = z_b b) : ¬ a = b := by cases a <;> cases b <;> simp_all [z_b]
theorem z_band (a b : Bool) : z_b a &&& z_b b = z_b (a && b) := by cases a <;> cases b <;> rfl
theorem z_bor (a b : Bool) : z_b a ||| z_b b = z_b (a || b) := by cases a <;> cases b <;> rfl
theorem z_bxor (a b : Bool) : z_b a ^^^ z_b b = z_b (a ^^ b) := by cases a <;> cases b <;> rfl
theorem z_nite {a b c e : Nat} (ha : a < 2 ^ 31) (hb : b < 2 ^ 31) : (if nI a < nI b then nI c else nI e) = nI (if a < b then c else e) := by
  by_cases q : a < b
  · rw [if_pos q, if_pos ((nI_ltI ha hb).mpr q)]
  · rw [if_neg q, if_neg (fun z => q ((nI_ltI ha hb).mp z))]
theorem q_shl1N {a : Nat} (ha : a ≤ 30) (hd : decode M.2.1 pc = .ok (.ishl, 1)) (kk : q_W g M d mc ms Q kc ks (pc + 1) ls (.int (nI (2 ^ a)) :: st) h) : q_W g M d mc ms Q kc ks pc ls (.int (nI a) :: .int 1 :: st) h := by
  refine q_ishl hd ?_
  have e : ∀ j, j ≤ 30 → (1 : Int32) <<< (nI j &&& 31) = nI (2 ^ j) := by decide
  rw [e a ha]
  exact kk
theorem nI_or (a b : Nat) : nI a ||| nI b = nI (a ||| b) := by
  apply Int32.toBitVec_inj.mp
  rw [Int32.toBitVec_or]
  apply BitVec.eq_of_toNat_eq
  rw [BitVec.toNat_or]
  show a % 2 ^ 32 ||| b % 2 ^ 32 = (a ||| b) % 2 ^ 32
  rw [Nat.or_mod_two_pow]
theorem q_iorN {a b : Nat} (hd : decode M.2.1 pc = .ok (.ior, 1)) (kk : q_W g M d mc ms Q kc ks (pc + 1) ls (.int (nI (a ||| b)) :: st) h) : q_W g M d mc ms Q kc ks pc ls (.int (nI b) :: .int (nI a) :: st) h :=
  q_ior hd (by rw [nI_or]; exact kk)
/-- a counter on its way down: one less than r -/
def z_dn (r : Nat) : Int32 := match r with
  | 0 => -1
  | r + 1 => nI r
theorem z_dn_1 (r : Nat) : nI r + Int32.ofInt (-1) = z_dn r := by
  cases r with
  | zero => rfl
  | succ r => exact q_m1 (by omega)
/-- the outcome o, and what is known of the heap -/
def q_chg (o : q_O) (B : q_H → Prop) : q_O → q_H → Prop := fun o1 h1 => o1 = o ∧ B h1
theorem q_kC {P : Option Value → q_H → Prop} {v : Option Value} {B : q_H → Prop} (k : ∀ h1, B h1 → P v h1) : ∀ v1 h1, q_chg (.inl v) B (.inl v1) h1 → P v1 h1 := by
  rintro _ h1 ⟨e, b⟩
  cases e
  exact k h1 b
theorem q_xC {P : String → q_H → Prop} {v : Option Value} {B : q_H → Prop} : ∀ E h1, q_chg (.inl v) B (.inr E) h1 → P E h1 := by
  rintro _ _ ⟨e, -⟩
  cases e
theorem q_kCx {P : Option Value → q_H → Prop} {E : String} {B : q_H → Prop} : ∀ v1 h1, q_chg (.inr E) B (.inl v1) h1 → P v1 h1 := by
  rintro _ _ ⟨e, -⟩
  cases e
theorem q_xCx {P : String → q_H → Prop} {E : String} {B : q_H → Prop} (k : ∀ h1, B h1 → P E h1) : ∀ E1 h1, q_chg (.inr E) B (.inr E1) h1 → P E1 h1 := by
  rintro _ h1 ⟨e, b⟩
  cases e
  exact k h1 b
/-- outcomes of methods that may throw -/
def q_oI (x : Int32 ⊕ String) : q_O := match x with
  | .inl v => .inl (some (.int v))
  | .inr E => .inr E
def q_oB (x : Bool ⊕ String) : q_O := match x with
  | .inl v => .inl (some (.int (z_b v)))
  | .inr E => .inr E
def q_oU (x : Unit ⊕ String) : q_O := match x with
  | .inl _ => .inl none
  | .inr E => .inr E
def q_oN (x : Nat ⊕ String) : q_O := match x with
  | .inl v => .inl (some (.int (nI v)))
  | .inr E => .inr E
def q_oD (x : UInt64 ⊕ String) : q_O := match x with
  | .inl v => .inl (some (.double v))
  | .inr E => .inr E
def q_oF (x : UInt32 ⊕ String) : q_O := match x with
  | .inl v => .inl (some (.float v))
  | .inr E => .inr E
/-- a method that changes nothing: a throw leaves its object behind -/
def q_out (o : q_O) (h : q_H) : q_O → q_H → Prop := match o with
  | .inl v => q_ret v h
  | .inr E => q_thr E (q_skip h)
end PVX
