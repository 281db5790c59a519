/-! THE PURE MACHINE: a judgement q_W over pure states (locals, operand stack and heap as lists and functions with addresses of their own), whose meaning is the machine's W. Every rule below is proved once of the machine; methods are walked by these rules alone. -/
abbrev q_C : Type := Option ((Nat × vp_A) ⊕ (Nat × List Value))
abbrev q_H : Type := Nat × (Nat → q_C)
abbrev q_O : Type := Option Value ⊕ String
/-- what is fixed for a run: the launch, where the law's own cells begin, class numbers, array classes' numbers, the values of old references, the script -/
abbrev q_G : Type := Launch × Nat × va_G × (Nat → ClassId) × (Nat → Value) × Nat × (Nat → Int32)
/-- the bytes of the patterns -/
def q_pat : Nat → List Int32
  | 1 => [60]
  | 2 => [40]
  | 3 => [47]
  | 4 => [41]
  | 5 => [32]
  | 6 => [112]
  | 7 => [111]
  | _ => []
/-- the law's String constants: entry, text -/
def q_si : Nat → Nat × String
  | 0 => (162, "")
  | 1 => (178, "<")
  | 2 => (193, "(")
  | 3 => (195, "/")
  | 4 => (197, ")")
  | 5 => (230, " ")
  | 6 => (232, "p")
  | _ => (234, "o")
/-- statics: class, name, descriptor, pure value -/
def q_zs : List (String × String × String × Value) := [("java/lang/String", "COMPACT_STRINGS", "Z", .int 1), ("ArgumentMap$1", "$SwitchMap$ArgumentMap$Verb", "[I", .ref 1), ("ArgumentMap$Verb", "ADD", "LArgumentMap$Verb;", .ref 3), ("ArgumentMap$Verb", "REMOVE", "LArgumentMap$Verb;", .ref 4), ("ArgumentMap$Verb", "ATTACK", "LArgumentMap$Verb;", .ref 5), ("ArgumentMap$Verb", "YIELD", "LArgumentMap$Verb;", .ref 6), ("ArgumentMap$Verb", "WEIGH", "LArgumentMap$Verb;", .ref 7), ("ArgumentMap$Verb", "RENEW", "LArgumentMap$Verb;", .ref 8), ("ArgumentMap$Verb", "CLAIM", "LArgumentMap$Verb;", .ref 9), ("ArgumentMap$Verb", "REPLY", "LArgumentMap$Verb;", .ref 10), ("ArgumentMap$Verb", "BACK", "LArgumentMap$Verb;", .ref 11), ("ArgumentMap$Verb", "END", "LArgumentMap$Verb;", .ref 12), ("ArgumentMap$Verb", "DAYS", "LArgumentMap$Verb;", .ref 13), ("java/lang/Integer", "DigitTens", "[B", .ref 36), ("java/lang/Integer", "DigitOnes", "[B", .ref 37), ("jdk/internal/util/Preconditions", "SIOOBE_FORMATTER", "Ljava/util/function/BiFunction;", .ref 38)]
/-- pairs of classes, the first not assignable to the second -/
def q_nc : List (String × String) := [("java/lang/IllegalArgumentException", "java/lang/IllegalStateException"), ("java/lang/IllegalArgumentException", "java/util/NoSuchElementException"), ("java/lang/IllegalArgumentException", "java/lang/IndexOutOfBoundsException"), ("java/lang/IllegalStateException", "java/lang/IllegalArgumentException"), ("java/lang/IllegalStateException", "java/util/NoSuchElementException"), ("java/lang/IllegalStateException", "java/lang/IndexOutOfBoundsException"), ("java/util/NoSuchElementException", "java/lang/IllegalArgumentException"), ("java/util/NoSuchElementException", "java/lang/IllegalStateException"), ("java/util/NoSuchElementException", "java/lang/IndexOutOfBoundsException"), ("java/lang/IndexOutOfBoundsException", "java/lang/IllegalArgumentException"), ("java/lang/IndexOutOfBoundsException", "java/lang/IllegalStateException"), ("java/lang/IndexOutOfBoundsException", "java/util/NoSuchElementException"), ("java/lang/ArithmeticException", "java/lang/IllegalArgumentException"), ("java/lang/ArithmeticException", "java/lang/IllegalStateException"), ("java/lang/ArithmeticException", "java/util/NoSuchElementException"), ("java/lang/ArithmeticException", "java/lang/IndexOutOfBoundsException")]
/-- pure addresses under this one stand for old cells -/
def q_R0 : Nat := 100
def q_ws (M : q_M) : List Cond := q_cw M :: q_WS
def q_A (g : q_G) : Nat → Prop := fun q => g.2.1 ≤ q
def q_ad (g : q_G) (i : Nat) : Nat := g.2.1 + (i - q_R0)
def q_tV (g : q_G) (v : Value) : Value := match v with
  | .ref i => if i < q_R0 then g.2.2.2.2.1 i else .ref (q_ad g i)
  | w => w
def q_ce (g : q_G) (c : (Nat × vp_A) ⊕ (Nat × List Value)) : va_E := match c with
  | .inl (t, n, .inr (.inr (.inr (.inr f)))) => .inl (g.2.2.2.1 t, n, .inr (.inr (.inr (.inr (fun j => (f j).map (q_ad g))))))
  | .inl (t, a) => .inl (g.2.2.2.1 t, a)
  | .inr (ci, fs) => .inr (ci, fs.map (q_tV g))
def q_Rep (g : q_G) (h : q_H) (H : Heap) : Prop :=
  q_R0 ≤ h.1 ∧ H.size = q_ad g h.1 ∧ ∀ i c, h.2 i = some c → q_R0 ≤ i ∧ i < h.1 ∧ va_at g.2.2.1 vwCl (q_ad g i, q_ce g c) H
abbrev q_tys (g : q_G) : List (ClassId × FieldType) := [(g.2.2.2.1 0, .int), (g.2.2.2.1 1, .boolean), (g.2.2.2.1 3, .byte), (g.2.2.2.1 3, .byte), (g.2.2.2.1 3, .byte), (g.2.2.2.1 3, .byte), (g.2.2.2.1 6, .object "ArgumentMap$State")]
def q_set (h : q_H) (i : Nat) (c : (Nat × vp_A) ⊕ (Nat × List Value)) : q_H := (h.1, fun j => if j = i then some c else h.2 j)
def q_push (h : q_H) (c : (Nat × vp_A) ⊕ (Nat × List Value)) : q_H := (h.1 + 1, fun j => if j = h.1 then some c else h.2 j)
def q_skip (h : q_H) : q_H := (h.1 + 1, h.2)
/-- the unknown value of a local variable -/
abbrev q_u : Value := .retAddr 0
def q_L (g : q_G) (ls : Array Slot) (nL : Nat) (L : List Value) : Prop :=
  ls.size = nL ∧ L.length = nL ∧ lv_wf ls ∧ ∀ (i : Nat) (v : Value), L[i]? = some v → v ≠ q_u → ls[i]? = some (Slot.val (q_tV g v))
/-- old arrays -/
def q_ar (g : q_G) (i : Nat) : Option (FieldType × Nat × (Nat → Value)) := match i with
  | 0 => some (.int, g.2.2.2.2.2.1, fun j => .int (g.2.2.2.2.2.2 j))
  | 1 => some (.int, 11, fun j => .int (nI ((j + 1) % 11)))
  | 36 => some (.byte, 100, fun j => .int (nI (48 + j / 10)))
  | 37 => some (.byte, 100, fun j => .int (nI (48 + j % 10)))
  | i => if 25 ≤ i ∧ i < 36 then some (.byte, (q_pat (i - 25)).length, fun j => .int ((q_pat (i - 25)).getD j 0)) else none
/-- what old cells and statics hold -/
def q_J (g : q_G) (U : State) : Prop :=
  (∀ z ∈ q_zs, va_Z z.1 z.2.1 z.2.2.1 (q_tV g z.2.2.2) (q_A g) U U.heap) ∧
  (∀ i ty n f, q_ar g i = some (ty, n, f) → ∃ a : Nat, g.2.2.2.2.1 i = .ref a ∧ va_T ty a n (fun j => q_tV g (f j)) (q_A g) U U.heap) ∧
  (∀ k, k < 11 → ∃ a : Nat, g.2.2.2.2.1 (3 + k) = .ref a ∧ va_O "ArgumentMap$Verb" a (q_A g) U U.heap ∧ va_OF "java/lang/Enum" "ordinal" "I" (.int (nI k)) a (q_A g) U U.heap) ∧
  (∀ k, k < 11 → ∃ a : Nat, g.2.2.2.2.1 (14 + k) = .ref a ∧ va_O "java/lang/String" a (q_A g) U U.heap ∧ va_OF "java/lang/String" "coder" "B" (.int 0) a (q_A g) U U.heap ∧ va_OF "java/lang/String" "value" "[B" (g.2.2.2.2.1 (25 + k)) a (q_A g) U U.heap ∧ (k < 8 → vk_R "ArgumentMapLaw" (q_si k).1 (q_si k).2 a U)) ∧
  ∀ i, g.2.2.2.2.1 i = .null ∨ ∃ a : Nat, g.2.2.2.2.1 i = .ref a
/-- what the tables say beside the good words -/
def q_N (U : State) : Prop :=
  (∀ a i x b, Cond.methodLinkNest a i x b ∈ lw_tbl → va_Nw (.methodLinkNest a i x b) U) ∧
  (∀ a i b n d x, Cond.fieldLinkNest a i b n d x ∈ lw_tbl → va_Nw (.fieldLinkNest a i b n d x) U) ∧
  (∀ a b, Cond.castable a b ∈ lw_tbl → va_Nw (.castable a b) U) ∧
  va_AO "ArgumentMap$State" U ∧
  (∀ a k tx, Cond.stringRef a k tx ∈ lw_tbl → ∃ sa : Nat, vk_R a k tx sa U) ∧
  (∀ z ∈ q_nc, va_Nc z.1 z.2 U) ∧
  ∀ x, Cond.declares x ∈ lw_tbl → va_Nw (.declares x) U
/-- what is known of every state -/
def q_K (g : q_G) (U : State) : Prop :=
  va_K g.2.2.1 vwCl (q_tys g) U ∧ g.2.1 ≤ U.heap.size ∧ g.1.stackTraces = false ∧
  vx_Zq Bundle.tN "UNASSIGNED_STACK" Bundle.steD (q_A g) U U.heap ∧ vx_Zq Bundle.tN "SUPPRESSED_SENTINEL" Bundle.listD (q_A g) U U.heap ∧ q_N U ∧ q_J g U
def q_rm (d mc ms : Nat) : Room := { frames := d, cells := mc, slots := ms, locals := 50 * d }
def q_Cx (g : q_G) (M : q_M) (p : Program) (s : State) (m : MethodId) (args : Array Value) (meth : Method) (c : Code) : Prop :=
  p.tables.exec = Jvm.exec ∧ c.code = M.2.1 ∧ c.maxLocals = M.2.2.1 ∧ s.vm.findClass M.1.cls = some m.cls ∧ (∀ w ∈ q_WS, w.before args s = true) ∧ meth.sig.returnType = M.2.2.2.1 ∧ meth.locks = false ∧ q_K g s ∧ c.exceptionTable.toList = tableOf M.2.2.2.2 ∧ meth.name = M.1.name
def q_Qc (g : q_G) (Q : q_O → q_H → Prop) : Array Value → State → Outcome → State → Prop := fun _ st oc t =>
  ∃ v h, oc = .returned (v.map (q_tV g)) ∧ Q (.inl v) h ∧ q_Rep g h t.heap ∧ va_F (q_A g) st t
def q_XC (g : q_G) (Q : q_O → q_H → Prop) : String → State → State → Prop := fun E st t =>
  ∃ h, Q (.inr E) h ∧ q_Rep g h t.heap ∧ va_F (q_A g) st t
def q_Pc (g : q_G) (as : List Value) (h : q_H) : Array Value → State → Prop := fun a U =>
  a = (as.map (q_tV g)).toArray ∧ q_Rep g h U.heap ∧ q_K g U
/-- a method's contract in pure words -/
def q_Spec (g : q_G) (M : q_M) (d mc ms : Nat) (as : List Value) (h : q_H) (Q : q_O → q_H → Prop) : Prop :=
  vx_Met g.1 M.1 (q_ws M) (q_rm d mc ms) (q_Pc g as h) (q_Qc g Q) (q_XC g Q) mc ms (q_A g)
/-- the judgement -/
def q_W (g : q_G) (M : q_M) (d mc ms : Nat) (Q : q_O → q_H → Prop) (kc ks pc : Nat) (ls st : List Value) (h : q_H) : Prop :=
  ∀ (p : Program) (e : Env) (s : State) (m : MethodId) (args : Array Value) (below : List Frame) (meth : Method) (c : Code) (H : Heap) (locs : List Loc) (mls : Array Slot),
    q_Cx g M p s m args meth c → q_Rep g h H → va_S (q_A g) s.heap H locs → q_L g mls M.2.2.1 ls →
    W p g.1 e (q_rm d mc ms) s m args below meth c H locs kc ks (vx_MQ below (q_Qc g Q) (q_XC g Q) args s mc ms (q_A g)) (F0 m pc mls (st.map (q_tV g)))
section PV
variable {g : q_G} {M : q_M} {d mc ms : Nat} {Q : q_O → q_H → Prop} {kc ks pc : Nat} {ls st : List Value} {h : q_H}
theorem q_ad_inj {g : q_G} {i j : Nat} (hi : q_R0 ≤ i) (hj : q_R0 ≤ j) (he : q_ad g i = q_ad g j) : i = j := by
  unfold q_ad at he
  omega
theorem q_tV_ref {g : q_G} {i : Nat} (hi : q_R0 ≤ i) : q_tV g (.ref i) = .ref (q_ad g i) := by
  show (if i < q_R0 then g.2.2.2.2.1 i else .ref (q_ad g i)) = _
  rw [if_neg (Nat.not_lt.mpr hi)]
theorem q_at_kept {D : va_G} {cl : List vw_C} {q : Nat × va_E} {H H1 : Heap} (h : va_at D cl q H) (hq : H1[q.1]? = H[q.1]?) : va_at D cl q H1 := h.kept hq
theorem q_Rep.upd {g : q_G} {h : q_H} {H H1 : Heap} {i : Nat} {c0 c : (Nat × vp_A) ⊕ (Nat × List Value)} (hR : q_Rep g h H) (h0 : h.2 i = some c0) (hz : H1.size = H.size)
    (hn : va_at g.2.2.1 vwCl (q_ad g i, q_ce g c) H1) (ho : ∀ q, q ≠ q_ad g i → H1[q]? = H[q]?) : q_Rep g (q_set h i c) H1 := by
  obtain ⟨r1, r2, r3⟩ := hR
  obtain ⟨i1, i2, -⟩ := r3 i c0 h0
  refine ⟨r1, hz.trans r2, fun j x hx => ?_⟩
  by_cases hj : j = i
  · subst hj
    have : x = c := by simpa [q_set] using hx.symm
    subst this
    exact ⟨i1, i2, hn⟩
  · have hx' : h.2 j = some x := by simpa [q_set, hj] using hx
    obtain ⟨j1, j2, j3⟩ := r3 j x hx'
    exact ⟨j1, j2, q_at_kept j3 (ho _ (fun q => hj (q_ad_inj j1 i1 q)))⟩
theorem q_lt_of_at {D : va_G} {cl : List vw_C} {q : Nat × va_E} {H : Heap} (h : va_at D cl q H) : q.1 < H.size := h.lt
theorem q_ad_succ {g : q_G} {n : Nat} (h : q_R0 ≤ n) : q_ad g (n + 1) = q_ad g n + 1 := by
  unfold q_ad
  omega
theorem q_Rep.pushed {g : q_G} {h : q_H} {H H1 : Heap} {c : (Nat × vp_A) ⊕ (Nat × List Value)} (hR : q_Rep g h H) (hz : H1.size = H.size + 1)
    (hn : va_at g.2.2.1 vwCl (q_ad g h.1, q_ce g c) H1) (ho : ∀ q, q < H.size → H1[q]? = H[q]?) : q_Rep g (q_push h c) H1 := by
  obtain ⟨r1, r2, r3⟩ := hR
  refine ⟨Nat.le_succ_of_le r1, by rw [hz, r2]; exact (q_ad_succ r1).symm, fun j x hx => ?_⟩
  by_cases hj : j = h.1
  · subst hj
    have : x = c := by simpa [q_push] using hx.symm
    subst this
    exact ⟨r1, Nat.lt_succ_self _, hn⟩
  · have hx' : h.2 j = some x := by simpa [q_push, hj] using hx
    obtain ⟨j1, j2, j3⟩ := r3 j x hx'
    exact ⟨j1, Nat.lt_succ_of_lt j2, q_at_kept j3 (ho _ (q_lt_of_at j3))⟩
theorem q_Rep.skipped {g : q_G} {h : q_H} {H H1 : Heap} (hR : q_Rep g h H) (hz : H1.size = H.size + 1) (ho : ∀ q, q < H.size → H1[q]? = H[q]?) : q_Rep g (q_skip h) H1 := by
  obtain ⟨r1, r2, r3⟩ := hR
  refine ⟨Nat.le_succ_of_le r1, by rw [hz, r2]; exact (q_ad_succ r1).symm, fun j x hx => ?_⟩
  obtain ⟨j1, j2, j3⟩ := r3 j x hx
  exact ⟨j1, Nat.lt_succ_of_lt j2, q_at_kept j3 (ho _ (q_lt_of_at j3))⟩
theorem q_A_of {g : q_G} {i : Nat} : q_A g (q_ad g i) := Nat.le_add_right _ _
theorem q_N.to {s t : State} (h : q_N s) (hW : s.WarmedH t.vm) : q_N t := by
  obtain ⟨h1, h2, h3, h4, h5, h6, h7⟩ := h
  exact ⟨fun a i x b w => (h1 a i x b w).warmM hW, fun a i b n d x w => (h2 a i b n d x w).warmF hW, fun a b w => (h3 a b w).warmC hW, h4.moved hW.alike, fun a k tx w => by
    obtain ⟨sa, q⟩ := h5 a k tx w
    exact ⟨sa, q.warm hW⟩, fun z hz => (h6 z hz).moved hW.alike, fun x w => (h7 x w).warmD hW⟩
theorem q_J.to {g : q_G} {s t : State} (h : q_J g s) (hW : s.WarmedH t.vm) (hvm : s.vm.Alike t.vm) (hq : ∀ q : Nat, q < s.heap.size → ¬ q_A g q → t.heap[q]? = s.heap[q]?) : q_J g t := by
  obtain ⟨h1, h2, h3, h4, h5⟩ := h
  refine ⟨fun z hz => va_Z.moved hvm ((h1 z hz).kept hq), fun i ty n f hi => ?_, fun k hk => ?_, fun k hk => ?_, h5⟩
  · obtain ⟨a, e, x⟩ := h2 i ty n f hi
    exact ⟨a, e, va_T.moved hvm (x.kept hq)⟩
  · obtain ⟨a, e, x, y⟩ := h3 k hk
    exact ⟨a, e, va_O.moved hvm (x.kept hq), va_OF.moved hvm (y.kept hq)⟩
  · obtain ⟨a, e, x, y, z, u⟩ := h4 k hk
    exact ⟨a, e, va_O.moved hvm (x.kept hq), va_OF.moved hvm (y.kept hq), va_OF.moved hvm (z.kept hq), fun h8 => (u h8).warm hW⟩
theorem q_K.to {g : q_G} {s t : State} (hK : q_K g s) (hW : s.WarmedH t.vm) (hz : g.2.1 ≤ t.heap.size) (hq : ∀ q : Nat, q < s.heap.size → ¬ q_A g q → t.heap[q]? = s.heap[q]?) : q_K g t := by
  obtain ⟨k1, k2, k3, k4, k5, k6, k7⟩ := hK
  exact ⟨va_K.moved hW.alike k1, hz, k3, vx_Zq.moved hW.alike (k4.kept hq), vx_Zq.moved hW.alike (k5.kept hq), k6.to hW, k7.to hW hW.alike hq⟩
theorem q_L.at {g : q_G} {mls : Array Slot} {nL : Nat} {L : List Value} (h : q_L g mls nL L) {i : Nat} {v : Value} (hi : L[i]? = some v) (hu : v ≠ q_u) : mls[i]? = some (Slot.val (q_tV g v)) := h.2.2.2 i v hi hu
/-- the known locals as a list of pairs -/
def q_pairs (g : q_G) (L : List Value) : List (Nat × Value) := (List.range L.length).filterMap fun i => match L[i]? with
  | some v => if v = q_u then none else some (i, q_tV g v)
  | none => none
theorem q_pairs_mem {g : q_G} {L : List Value} {i : Nat} {v : Value} (hi : L[i]? = some v) (hu : v ≠ q_u) : (i, q_tV g v) ∈ q_pairs g L := by
  refine List.mem_filterMap.mpr ⟨i, List.mem_range.mpr (List.getElem?_eq_some_iff.mp hi).1, ?_⟩
  rw [hi]
  exact if_neg hu
theorem q_L.has {g : q_G} {mls : Array Slot} {nL : Nat} {L : List Value} (h : q_L g mls nL L) : lv_has mls nL (q_pairs g L) := by
  refine ⟨h.1, h.2.2.1, fun q hq => ?_⟩
  obtain ⟨i, -, hi⟩ := List.mem_filterMap.mp hq
  cases hv : L[i]? with
  | none => rw [hv] at hi; cases hi
  | some v =>
    rw [hv] at hi
    by_cases hu : v = q_u
    · simp [hu] at hi
    · simp only [if_neg hu] at hi
      cases hi
      exact h.at hv hu
/-- no value of two slots stands just ahead of place i -/
def q_ok1 (L : List Value) (i : Nat) : Bool := match i with
  | 0 => true
  | j + 1 => match L[j]? with
    | some (.long _) => false
    | some (.double _) => false
    | _ => true
theorem q_catref {g : q_G} (hg : ∀ i, g.2.2.2.2.1 i = .null ∨ ∃ a : Nat, g.2.2.2.2.1 i = .ref a) (i : Nat) : (q_tV g (.ref i)).category = 1 := by
  by_cases hi : i < q_R0
  · have e : q_tV g (.ref i) = g.2.2.2.2.1 i := by
      show (if i < q_R0 then g.2.2.2.2.1 i else .ref (q_ad g i)) = _
      rw [if_pos hi]
    rw [e]
    rcases hg i with h | ⟨a, h⟩ <;> rw [h] <;> rfl
  · rw [q_tV_ref (Nat.le_of_not_lt hi)]
    rfl
theorem q_L.store1 {g : q_G} {mls' : Array Slot} {nL : Nat} {L : List Value} (hg : ∀ i, g.2.2.2.2.1 i = .null ∨ ∃ a : Nat, g.2.2.2.2.1 i = .ref a) (hl : L.length = nL) {i : Nat} {v : Value} (hok : q_ok1 L i = true) (hi : i < nL)
    (h : lv_has mls' nL ((i, q_tV g v) :: (q_pairs g L).filter (fun q => !(q.1 == i) && !(q.1 + 1 == i && q.2.category == 2)))) : q_L g mls' nL (L.set i v) := by
  refine ⟨h.1, by rw [List.length_set]; exact hl, h.2.1, fun j w hj hu => ?_⟩
  by_cases hji : j = i
  · subst hji
    have hw : w = v := by
      rw [List.getElem?_set_self (by omega)] at hj
      exact (Option.some.inj hj).symm
    subst hw
    exact h.2.2 (j, q_tV g w) List.mem_cons_self
  · rw [List.getElem?_set_ne (fun q => hji q.symm)] at hj
    refine h.2.2 (j, q_tV g w) (List.mem_cons_of_mem _ (List.mem_filter.mpr ⟨q_pairs_mem hj hu, ?_⟩))
    have h1 : (j == i) = false := by simpa using hji
    by_cases h2 : j + 1 = i
    · subst h2
      have hc : ¬ (q_tV g w).category = 2 := by
        simp only [q_ok1, hj] at hok
        cases w with
        | long x => simp at hok
        | double x => simp at hok
        | ref x => simp [q_catref hg]
        | _ => simp [q_tV, Value.category]
      simp [h1, hc]
    · have h3 : (j + 1 == i) = false := by simpa using h2
      simp [h1, h3]
end PV
