/-- a condition out of a tree of conditions, by its way -/
def q_at : Jvm.Cond → Nat → Jvm.Cond
  | .and a b, p => if p % 2 = 0 then q_at a (p / 2) else q_at b (p / 2)
  | c, _ => c
theorem q_atE {args : Array Value} {s : State} (T : Jvm.Cond) : T.before args s = true → ∀ p, (q_at T p).before args s = true := by
  induction T with
  | and a b iha ihb =>
    intro h p
    rw [Cond.before_and, Bool.and_eq_true] at h
    simp only [q_at]
    split
    · exact iha h.1 _
    · exact ihb h.2 _
  | _ =>
    intro h p
    simp only [q_at]
    exact h
abbrev q_T0 : Jvm.Cond := Jvm.Cond.and given_1 narrow_1
theorem q_gv {args : Array Value} {s : State} {c : Jvm.Cond} (hgv : q_T0.before args s = true) (p : Nat) (h : q_at q_T0 p = c) : c.before args s = true := h ▸ q_atE _ hgv p
theorem q_eqr {args : Array Value} {s : State} {t u : Term} {a : Nat} (h : (Cond.eq t u).before args s = true) (hu : u.eval args s none [] s = some (.ref a)) : t.eval args s none [] s = some (.ref a) := by
  cases hv : t.eval args s none [] s with
  | none => simp [Cond.before, Cond.holds, Cond.value, hv] at h
  | some w =>
    simp only [Cond.before, Cond.holds, Cond.value, hv, hu] at h
    cases w <;> simp_all
theorem va_T.fc {ty : FieldType} {t N : Nat} {f f' : Nat → Value} {A : Nat → Prop} {U : State} {H : Heap} (h : va_T ty t N f A U H) (e : ∀ j, j < N → f j = f' j) : va_T ty t N f' A U H := by
  obtain ⟨cell, h1, h2, h3, h4, h5, h6, h7⟩ := h
  exact ⟨cell, h1, h2, h3, h4, h5, fun j hj => by rw [← e j hj]; exact h6 j hj, h7⟩
def q_vN (k : Nat) : String := (["ADD", "REMOVE", "ATTACK", "YIELD", "WEIGH", "RENEW", "CLAIM", "REPLY", "BACK", "END", "DAYS"] : List String).getD k ""
def q_vK (k : Nat) : Nat := ([162, 178, 193, 195, 197, 230, 232, 234, 162, 162, 162] : List Nat).getD k 0
abbrev q_vS (k : Nat) : Term := .static "ArgumentMap$Verb" (q_vN k) "LArgumentMap$Verb;"
abbrev q_vT (k : Nat) : Term := .string "ArgumentMapLaw" (q_vK k)
abbrev q_vV (k : Nat) : Term := .field (q_vT k) "java/lang/String" "value" "[B"
theorem f_vex : ∀ k, k < 11 → q_at q_T0 (([325, 421, 165, 613, 229, 2021, 149, 1621, 981, 1717, 757] : List Nat).getD k 0) = Cond.exactly (q_vS k) "ArgumentMap$Verb" := by decide +kernel
theorem f_vor : ∀ k, k < 11 → q_at q_T0 (([837, 933, 677, 1637, 741, 21, 661, 341, 2005, 437, 1781] : List Nat).getD k 0) = Cond.eq (.field (q_vS k) "java/lang/Enum" "ordinal" "I") (.int (nI k)) := by decide +kernel
theorem f_sex : ∀ k, k < 11 → q_at q_T0 (([927, 95, 3679, 1887, 735, 991, 1087, 319, 927, 927, 927] : List Nat).getD k 0) = Cond.exactly (q_vT k) "java/lang/String" := by decide +kernel
theorem f_sco : ∀ k, k < 11 → q_at q_T0 (([2975, 1119, 351, 3935, 1759, 3039, 3135, 1343, 2975, 2975, 2975] : List Nat).getD k 0) = Cond.eq (.field (q_vT k) "java/lang/String" "coder" "B") (.int 0) := by decide +kernel
theorem f_sar : ∀ k, k < 11 → q_at q_T0 (([1951, 3167, 1375, 223, 3807, 2015, 575, 3391, 1951, 1951, 1951] : List Nat).getD k 0) = Cond.arrayOf (q_vV k) .byte := by decide +kernel
theorem f_sle : ∀ k, k < 11 → q_at q_T0 (([3999, 607, 3423, 1247, 479, 4063, 1599, 831, 3999, 3999, 3999] : List Nat).getD k 0) = Cond.eq (.length (q_vV k)) (.int (Int32.ofNat (q_pat k).length)) := by decide +kernel
theorem f_sel : ∀ k, k < 11 → ∀ j, j < (q_pat k).length → q_at q_T0 ((([[], [1631], [863], [3295], [1503], [63], [3647], [1855], [], [], []] : List (List Nat)).getD k []).getD j 0) = Cond.eq (.elem (q_vV k) (.int (Int32.ofNat j))) (.int ((q_pat k).getD j 0)) := by decide +kernel
theorem f_swE : ∀ k, k < 11 → q_at q_T0 (([1733, 453, 1477, 965, 1989, 37, 549, 1573, 293, 805, 1829] : List Nat).getD k 0) = Cond.eq (.elem (.static "ArgumentMap$1" "$SwitchMap$ArgumentMap$Verb" "[I") (.int (Int32.ofNat k))) (.int (nI ((k + 1) % 11))) := by decide +kernel
theorem f_str : ∀ k, k < 8 → tables_1[([1360, 1361, 1362, 1363, 1364, 1365, 1366, 1367] : List Nat).getD k 0]? = some (Cond.stringRef "ArgumentMapLaw" (q_si k).1 (q_si k).2) := by decide +kernel
theorem f_vK : ∀ k, k < 8 → q_vK k = (q_si k).1 := by decide +kernel
theorem f_lay : ∀ k, k < 11 → tables_1[([1067, 1235, 1223, 1244, 1253, 1262, 1271, 1290, 1299, 1308, 1317] : List Nat).getD k 0]? = some (Cond.laysStatic "ArgumentMap$Verb" (q_vN k) "LArgumentMap$Verb;") := by decide +kernel
theorem f_ten : ∀ j, j < 100 → q_at q_T0 (([329, 841, 1865, 201, 713, 1737, 457, 1481, 969, 1993, 41, 553, 1577, 297, 809, 1833, 169, 681, 1705, 425, 937, 1961, 105, 617, 1641, 361, 873, 1897, 233, 745, 1769, 489, 1513, 1001, 2025, 25, 537, 1561, 281, 793, 1817, 153, 665, 1689, 409, 921, 1945, 89, 601, 1625, 345, 857, 1881, 217, 729, 1753, 473, 1497, 985, 2009, 57, 569, 1593, 313, 825, 1849, 185, 697, 1721, 441, 953, 1977, 121, 633, 1657, 377, 889, 1913, 249, 761, 1785, 505, 1529, 1017, 2041, 5, 517, 1541, 261, 773, 1797, 133, 645, 1669, 389, 901, 1925, 69, 581, 1605] : List Nat).getD j 0) = Cond.eq (.elem (.static "java/lang/Integer" "DigitTens" "[B") (.int (Int32.ofNat j))) (.int (nI (48 + j / 10))) := by decide +kernel
theorem f_one : ∀ j, j < 100 → q_at q_T0 (([65, 577, 1601, 321, 833, 1857, 193, 705, 1729, 449, 1473, 961, 1985, 33, 545, 1569, 289, 801, 1825, 161, 673, 1697, 417, 929, 1953, 97, 609, 1633, 353, 865, 1889, 225, 737, 1761, 481, 1505, 993, 2017, 17, 529, 1553, 273, 785, 1809, 145, 657, 1681, 401, 913, 1937, 81, 593, 1617, 337, 849, 1873, 209, 721, 1745, 465, 1489, 977, 2001, 49, 561, 1585, 305, 817, 1841, 177, 689, 1713, 433, 945, 1969, 113, 625, 1649, 369, 881, 1905, 241, 753, 1777, 497, 1521, 1009, 2033, 9, 521, 1545, 265, 777, 1801, 137, 649, 1673, 393, 905, 1929] : List Nat).getD j 0) = Cond.eq (.elem (.static "java/lang/Integer" "DigitOnes" "[B") (.int (Int32.ofNat j))) (.int (nI (48 + j % 10))) := by decide +kernel
def q_sx : List (String × Nat × Nat) := [("ArgumentMap", 126, 1501), ("ArgumentMap$State", 103, 3587), ("ArgumentMap", 245, 1347), ("ArgumentMap", 258, 1315), ("ArgumentMap", 283, 1379), ("java/lang/StringIndexOutOfBoundsException", 13, 3347), ("java/util/Arrays", 337, 3283), ("java/util/Arrays", 48, 979), ("java/util/Arrays", 57, 1843), ("java/util/Arrays", 59, 1139), ("java/lang/ArrayIndexOutOfBoundsException", 13, 371), ("ArgumentMap$Dialogue", 36, 3851), ("ArgumentMap", 172, 843), ("ArgumentMap", 182, 3755), ("ArgumentMap", 239, 1003), ("ArgumentMap", 161, 859), ("ArgumentMap$State", 200, 3899), ("ArgumentMap$State", 151, 1787), ("ArgumentMap$State", 165, 1799), ("ArgumentMap$State", 168, 1735), ("ArgumentMap$State", 170, 679), ("ArgumentMap$State", 172, 999), ("ArgumentMap$State", 178, 87), ("ArgumentMap$State", 188, 3031), ("ArgumentMap$State", 193, 3447), ("ArgumentMap$Dialogue", 54, 3727), ("ArgumentMap$State", 195, 3119), ("ArgumentMap", 324, 1775), ("ArgumentMapLaw", 162, 927), ("ArgumentMapLaw", 178, 95), ("ArgumentMapLaw", 193, 3679), ("ArgumentMapLaw", 195, 1887), ("ArgumentMapLaw", 197, 735), ("ArgumentMapLaw", 230, 991), ("ArgumentMapLaw", 232, 1087), ("ArgumentMapLaw", 234, 319)]
theorem q_sx_ok : ∀ z ∈ q_sx, q_at q_T0 z.2.2 = Cond.exactly (.string z.1 z.2.1) "java/lang/String" := by decide +kernel
def q_sck (w : Cond) : Bool := match w with
  | .stringRef a k _ => q_sx.any (fun z => decide (z.1 = a) && decide (z.2.1 = k))
  | _ => true
theorem q_sck_ok : lw_tbl.all q_sck = true := by decide +kernel
theorem q_nc_ok : ∀ i, i < 16 → q_at q_T0 (([349, 845, 1709, 1005, 1869, 429, 2029, 861, 941, 29, 1885, 205, 797, 477, 1485, 109] : List Nat).getD i 0) = Cond.not (.castable (q_nc.getD i ("", "")).1 (q_nc.getD i ("", "")).2) := by decide +kernel
section WORLD
variable {s : State} {b : Nat}
theorem w_cls (hts : ∀ w ∈ lw_tbl, w.before #[Value.ref b] s = true) : ∃ (dC : Nat → ClassId) (dI : Nat → Nat → Nat), ∀ (k : Nat) (q : vw_C), vwCl[k]? = some q → u_Kn s q.1 q.2.1 q.2.2 (dC k) (dI k) := by
  have h : ∀ k : Nat, ∃ z : ClassId × (Nat → Nat), ∀ q : vw_C, vwCl[k]? = some q → u_Kn s q.1 q.2.1 q.2.2 z.1 z.2 := by
    intro k
    match k with
    | 0 =>
      obtain ⟨c, i, h⟩ := u_known (C := RJ0) (T := TJ0) (N := 4) (n := 4) hts inJ0 (hts (.instantiable RJ0 4) (q_memL 820 (by decide +kernel)))
      exact ⟨(c, i), fun q hq => by cases hq; exact h⟩
    | 1 =>
      obtain ⟨c, i, h⟩ := u_known (C := RJ4) (T := TJ4) (N := 4) (n := 4) hts inJ4 (hts (.instantiable RJ4 4) (q_memL 211 (by decide +kernel)))
      exact ⟨(c, i), fun q hq => by cases hq; exact h⟩
    | 2 =>
      obtain ⟨c, i, h⟩ := u_known (C := RJx00060) (T := TJx00060) (N := 6) (n := 6) hts inJx00060 (hts (.instantiable RJx00060 6) (q_memL 917 (by decide +kernel)))
      exact ⟨(c, i), fun q hq => by cases hq; exact h⟩
    | 3 =>
      obtain ⟨c, i, h⟩ := u_known (C := RJx7c733) (T := TJx7c733) (N := 6) (n := 6) hts inJx7c733 (hts (.instantiable RJx7c733 6) (q_memL 665 (by decide +kernel)))
      exact ⟨(c, i), fun q hq => by cases hq; exact h⟩
    | 4 =>
      obtain ⟨c, i, h⟩ := u_known (C := RX2) (T := TX2) (N := 5) (n := 5) hts inX2 (hts (.instantiable RX2 5) (q_memL 50 (by decide +kernel)))
      exact ⟨(c, i), fun q hq => by cases hq; exact h⟩
    | 5 =>
      obtain ⟨c, i, h⟩ := u_known (C := RX3) (T := TX3) (N := 3) (n := 3) hts inX3 (hts (.instantiable RX3 3) (q_memL 169 (by decide +kernel)))
      exact ⟨(c, i), fun q hq => by cases hq; exact h⟩
    | 6 =>
      obtain ⟨c, i, h⟩ := u_known (C := RX4) (T := TX4) (N := 2) (n := 2) hts inX4 (hts (.instantiable RX4 2) (q_memL 156 (by decide +kernel)))
      exact ⟨(c, i), fun q hq => by cases hq; exact h⟩
    | 7 =>
      obtain ⟨c, i, h⟩ := u_known (C := RX5) (T := TX5) (N := 3) (n := 3) hts inX5 (hts (.instantiable RX5 3) (q_memL 118 (by decide +kernel)))
      exact ⟨(c, i), fun q hq => by cases hq; exact h⟩
    | 8 =>
      obtain ⟨c, i, h⟩ := u_known (C := RX6) (T := TX6) (N := 3) (n := 3) hts inX6 (hts (.instantiable RX6 3) (q_memL 137 (by decide +kernel)))
      exact ⟨(c, i), fun q hq => by cases hq; exact h⟩
    | 9 =>
      obtain ⟨c, i, h⟩ := u_known (C := RX7) (T := TX7) (N := 6) (n := 6) hts inX7 (hts (.instantiable RX7 6) (q_memL 186 (by decide +kernel)))
      exact ⟨(c, i), fun q hq => by cases hq; exact h⟩
    | 10 =>
      obtain ⟨c, i, h⟩ := u_known (C := RX8) (T := TX8) (N := 9) (n := 9) hts inX8 (hts (.instantiable RX8 9) (q_memL 44 (by decide +kernel)))
      exact ⟨(c, i), fun q hq => by cases hq; exact h⟩
    | 11 =>
      obtain ⟨c, i, h⟩ := u_known (C := RX10) (T := TX10) (N := 13) (n := 13) hts inX10 (hts (.instantiable RX10 13) (q_memL 36 (by decide +kernel)))
      exact ⟨(c, i), fun q hq => by cases hq; exact h⟩
    | k + 12 => exact ⟨(0, fun _ => 0), fun q hq => by simp [vwCl] at hq⟩
  obtain ⟨f, hf⟩ := Classical.axiomOfChoice h
  exact ⟨fun k => (f k).1, fun k => (f k).2, hf⟩
theorem w_arP {ty : FieldType} (h : (Cond.arrayClass ty).before #[Value.ref b] s = true) : ∃ cA, ArrOfT s cA ty ∧ s.vm.findClass ("[" ++ ty.toString) = some cA := by
  obtain ⟨cA, kA, comp, h1, h2, h3⟩ := Cond.arrayClass_spec h
  exact ⟨cA, fun n z => ⟨fun k h => (by cases h), kA, h2, comp, h3⟩, h1⟩
theorem w_arrs (hts : ∀ w ∈ lw_tbl, w.before #[Value.ref b] s = true) : ∃ ty : Nat → ClassId, ∀ (k : Nat) (q : ClassId × FieldType), ([(ty 0, .int), (ty 1, .boolean), (ty 3, .byte), (ty 3, .byte), (ty 3, .byte), (ty 3, .byte), (ty 6, .object "ArgumentMap$State")] : List (ClassId × FieldType))[k]? = some q → ArrOfT s q.1 q.2 ∧ va_RA s q.1 q.2 := by
  obtain ⟨c0, a0, n0⟩ := w_arP (hts (.arrayClass .int) (q_memL 74 (by decide +kernel)))
  obtain ⟨c1, a1, n1⟩ := w_arP (hts (.arrayClass .boolean) (q_memL 184 (by decide +kernel)))
  obtain ⟨c3, a3, n3⟩ := w_arP (hts (.arrayClass .byte) (q_memL 242 (by decide +kernel)))
  obtain ⟨comp, c6, k6, g1, -, g3, g4, g5⟩ := Cond.arrayOver_spec (hts (.arrayOver (.object "ArgumentMap$State")) (q_memL 124 (by decide +kernel)))
  refine ⟨fun k => match k with
    | 0 => c0
    | 1 => c1
    | 3 => c3
    | _ => c6, ?_⟩
  intro k q hq
  match k with
  | 0 => cases hq; exact ⟨a0, n0⟩
  | 1 => cases hq; exact ⟨a1, n1⟩
  | 2 => cases hq; exact ⟨a3, n3⟩
  | 3 => cases hq; exact ⟨a3, n3⟩
  | 4 => cases hq; exact ⟨a3, n3⟩
  | 5 => cases hq; exact ⟨a3, n3⟩
  | 6 => cases hq; exact ⟨fun n z => ⟨fun k h => (by cases h), k6, g3, comp, g4⟩, k6, comp, g3, g4, g1, g5⟩
  | k + 7 => simp at hq
variable {A : Nat → Prop}
theorem w_str (hts : ∀ w ∈ lw_tbl, w.before #[Value.ref b] s = true) (hgv : q_T0.before #[Value.ref b] s = true) (hA : ∀ a : Nat, a < s.heap.size → ¬ A a) {k : Nat} (hk : k < 11) : ∃ z : Nat × Nat, (q_vT k).eval #[Value.ref b] s none [] s = some (.ref z.1) ∧ va_O "java/lang/String" z.1 A s s.heap ∧ va_OF "java/lang/String" "coder" "B" (.int 0) z.1 A s s.heap ∧ va_OF "java/lang/String" "value" "[B" (.ref z.2) z.1 A s s.heap ∧ va_T .byte z.2 (q_pat k).length (fun j => .int ((q_pat k).getD j 0)) A s s.heap ∧ (k < 8 → vk_R "ArgumentMapLaw" (q_si k).1 (q_si k).2 z.1 s) := by
  obtain ⟨a, c, cA, kA, q1, q2, q3, q4, q5, q6, -⟩ := Cond.exactly_spec (q_gv hgv _ (f_sex k hk))
  obtain ⟨t, ht, hT⟩ := va_Tof (f := fun j => .int ((q_pat k).getD j 0)) (A := A) (Nat.lt_of_le_of_lt (z_patlen k) (by decide)) (q_gv hgv _ (f_sar k hk)) (va_eqt (q_gv hgv _ (f_sle k hk))) (fun j hj => va_eqt (q_gv hgv _ (f_sel k hk j hj))) hA
  exact ⟨(a, t), q1, ⟨cA, q3, q5, by rw [q6]; exact q2, hA a (Array.getElem?_eq_some_iff.mp q3).1⟩, vk_OFof q1 (va_eqt (q_gv hgv _ (f_sco k hk))) hA, vk_OFof q1 ht hA, hT, fun k8 => vk_R.of (hts _ (q_memL _ (f_str k k8))) (by rw [← f_vK k k8]; exact q1)⟩
theorem w_verb (hts : ∀ w ∈ lw_tbl, w.before #[Value.ref b] s = true) (hgv : q_T0.before #[Value.ref b] s = true) (hA : ∀ a : Nat, a < s.heap.size → ¬ A a) {k : Nat} (hk : k < 11) : ∃ a : Nat, (q_vS k).eval #[Value.ref b] s none [] s = some (.ref a) ∧ va_Z "ArgumentMap$Verb" (q_vN k) "LArgumentMap$Verb;" (.ref a) A s s.heap ∧ va_O "ArgumentMap$Verb" a A s s.heap ∧ va_OF "java/lang/Enum" "ordinal" "I" (.int (nI k)) a A s s.heap := by
  obtain ⟨a, c, cA, kA, q1, q2, q3, q4, q5, q6, -⟩ := Cond.exactly_spec (q_gv hgv _ (f_vex k hk))
  exact ⟨a, q1, va_Zref (hts _ (q_memL _ (f_lay k hk))) (hts (.initialized "ArgumentMap$Verb") (q_memL 14 (by decide +kernel))) q1 hA, ⟨cA, q3, q5, by rw [q6]; exact q2, hA a (Array.getElem?_eq_some_iff.mp q3).1⟩, vk_OFof q1 (va_eqt (q_gv hgv _ (f_vor k hk))) hA⟩
theorem w_N (hts : ∀ w ∈ lw_tbl, w.before #[Value.ref b] s = true) (hgv : q_T0.before #[Value.ref b] s = true) : q_N s := by
  refine ⟨fun a i x y w => va_Nw.of rfl (hts _ w), fun a i y n d x w => va_Nw.of rfl (hts _ w), fun a c w => va_Nw.of rfl (hts _ w), va_AO.of (hts (.arrayOver (.object "ArgumentMap$State")) (q_memL 124 (by decide +kernel))), fun a k tx w => ?_, fun z hz => ?_, fun x w => va_Nw.of rfl (hts _ w)⟩
  · have h := List.all_eq_true.mp q_sck_ok _ w
    obtain ⟨z, hz, e⟩ := List.any_eq_true.mp (show q_sx.any (fun z => decide (z.1 = a) && decide (z.2.1 = k)) = true from h)
    rw [Bool.and_eq_true, decide_eq_true_eq, decide_eq_true_eq] at e
    have f := q_gv hgv _ (q_sx_ok z hz)
    rw [e.1, e.2] at f
    obtain ⟨t, c, cA, kA, q1, -⟩ := Cond.exactly_spec f
    exact ⟨t, vk_R.of (hts _ w) q1⟩
  · obtain ⟨i, hi, e⟩ := List.getElem_of_mem hz
    have hi20 : i < 16 := hi
    have f := q_gv hgv _ (q_nc_ok i hi20)
    have e2 : q_nc.getD i ("", "") = z := by
      rw [List.getD_eq_getElem?_getD, List.getElem?_eq_getElem hi, e]
      rfl
    rw [e2] at f
    exact va_Nc.of f
/-- what the old cells' pure numbers stand for -/
def q_old (b aS aT aO : Nat) (vF : Value) (aV aK aB : Nat → Nat) (i : Nat) : Value :=
  if i < 3 then (if i = 0 then .ref b else if i = 1 then .ref aS else .null) else if i < 14 then .ref (aV (i - 3)) else if i < 25 then .ref (aK (i - 14)) else if i < 36 then .ref (aB (i - 25)) else if i = 36 then .ref aT else if i = 37 then .ref aO else if i = 38 then vF else .null
theorem q_tVo {g : q_G} {i : Nat} (hi : i < 100) : q_tV g (.ref i) = g.2.2.2.2.1 i := if_pos hi
theorem q_oldV {b aS aT aO : Nat} {vF : Value} {aV aK aB : Nat → Nat} {k : Nat} (hk : k < 11) : q_old b aS aT aO vF aV aK aB (3 + k) = .ref (aV k) := by
  unfold q_old
  rw [if_neg (by omega), if_pos (by omega), Nat.add_sub_cancel_left]
theorem q_oldK {b aS aT aO : Nat} {vF : Value} {aV aK aB : Nat → Nat} {k : Nat} (hk : k < 11) : q_old b aS aT aO vF aV aK aB (14 + k) = .ref (aK k) := by
  unfold q_old
  rw [if_neg (by omega), if_neg (by omega), if_pos (by omega), Nat.add_sub_cancel_left]
theorem q_oldB {b aS aT aO : Nat} {vF : Value} {aV aK aB : Nat → Nat} {k : Nat} (hk : k < 11) : q_old b aS aT aO vF aV aK aB (25 + k) = .ref (aB k) := by
  unfold q_old
  rw [if_neg (by omega), if_neg (by omega), if_neg (by omega), if_pos (by omega), Nat.add_sub_cancel_left]
theorem q_oldR {b aS aT aO : Nat} {vF : Value} {aV aK aB : Nat → Nat} (hF : vF = .null ∨ ∃ t : Nat, vF = .ref t) (i : Nat) : q_old b aS aT aO vF aV aK aB i = .null ∨ ∃ t : Nat, q_old b aS aT aO vF aV aK aB i = .ref t := by
  unfold q_old
  by_cases h0 : i < 3
  · rw [if_pos h0]
    by_cases h1 : i = 0
    · rw [if_pos h1]
      exact Or.inr ⟨_, rfl⟩
    · rw [if_neg h1]
      by_cases h2 : i = 1
      · rw [if_pos h2]
        exact Or.inr ⟨_, rfl⟩
      · rw [if_neg h2]
        exact Or.inl rfl
  · rw [if_neg h0]
    by_cases h1 : i < 14
    · rw [if_pos h1]
      exact Or.inr ⟨_, rfl⟩
    · rw [if_neg h1]
      by_cases h2 : i < 25
      · rw [if_pos h2]
        exact Or.inr ⟨_, rfl⟩
      · rw [if_neg h2]
        by_cases h3 : i < 36
        · rw [if_pos h3]
          exact Or.inr ⟨_, rfl⟩
        · rw [if_neg h3]
          by_cases h4 : i = 36
          · rw [if_pos h4]
            exact Or.inr ⟨_, rfl⟩
          · rw [if_neg h4]
            by_cases h5 : i = 37
            · rw [if_pos h5]
              exact Or.inr ⟨_, rfl⟩
            · rw [if_neg h5]
              by_cases h6 : i = 38
              · rw [if_pos h6]
                exact hF
              · rw [if_neg h6]
                exact Or.inl rfl
set_option maxRecDepth 100000 in
set_option maxHeartbeats 4000000 in
theorem q_world {l : Launch} (hflags : l.flags = flags0) {L : Nat} {xs : Nat → Int32} (hts : ∀ w ∈ lw_tbl, w.before #[Value.ref b] s = true) (hX : va_X b L xs s s.heap) (hbl : b < s.heap.size) (hL : L ≤ 260) (hgv : q_T0.before #[Value.ref b] s = true) : ∃ g : q_G, g.1 = l ∧ g.2.1 = s.heap.size ∧ g.2.2.2.2.2.1 = L ∧ g.2.2.2.2.1 0 = .ref b ∧ q_K g s := by
  have hA : ∀ a : Nat, a < s.heap.size → ¬ (fun q : Nat => s.heap.size ≤ q) a := fun a h => Nat.not_le.mpr h
  obtain ⟨dC, dI, hC⟩ := w_cls hts
  obtain ⟨ty, hTy⟩ := w_arrs hts
  have h0 : ∀ k : Nat, ∃ z : Nat × Nat, k < 11 → _ := fun k => by
    by_cases hk : k < 11
    · obtain ⟨z, hz⟩ := w_str hts hgv hA hk
      exact ⟨z, fun _ => hz⟩
    · exact ⟨(0, 0), fun h => absurd h hk⟩
  obtain ⟨aS, hS⟩ := Classical.axiomOfChoice h0
  have h1 : ∀ k : Nat, ∃ z : Nat, k < 11 → _ := fun k => by
    by_cases hk : k < 11
    · obtain ⟨z, hz⟩ := w_verb hts hgv hA hk
      exact ⟨z, fun _ => hz⟩
    · exact ⟨0, fun h => absurd h hk⟩
  obtain ⟨aV, hV⟩ := Classical.axiomOfChoice h1
  obtain ⟨wSw, ewSw, twSw⟩ := va_Tof (tm := .static "ArgumentMap$1" "$SwitchMap$ArgumentMap$Verb" "[I") (ty := .int) (N := 11) (f := fun j => .int (nI ((j + 1) % 11))) (A := fun q : Nat => s.heap.size ≤ q) (by decide) (q_gv (c := Cond.arrayOf (.static "ArgumentMap$1" "$SwitchMap$ArgumentMap$Verb" "[I") .int) hgv 197 (by decide +kernel)) (va_eqt (q_gv (c := Cond.eq (.length (.static "ArgumentMap$1" "$SwitchMap$ArgumentMap$Verb" "[I")) (.int (Int32.ofNat 11))) hgv 709 (by decide +kernel))) (fun j hj => va_eqt (q_gv hgv _ (f_swE j hj))) hA
  have zwSw := va_Zref (hts (.laysStatic "ArgumentMap$1" "$SwitchMap$ArgumentMap$Verb" "[I") (q_memL 1086 (by decide +kernel))) (hts (.initialized "ArgumentMap$1") (q_memL 16 (by decide +kernel))) ewSw hA
  obtain ⟨wTe, ewTe, twTe⟩ := va_Tof (tm := .static "java/lang/Integer" "DigitTens" "[B") (ty := .byte) (N := 100) (f := fun j => .int (nI (48 + j / 10))) (A := fun q : Nat => s.heap.size ≤ q) (by decide) (q_gv (c := Cond.arrayOf (.static "java/lang/Integer" "DigitTens" "[B") .byte) hgv 585 (by decide +kernel)) (va_eqt (q_gv (c := Cond.eq (.length (.static "java/lang/Integer" "DigitTens" "[B")) (.int (Int32.ofNat 100))) hgv 1609 (by decide +kernel))) (fun j hj => va_eqt (q_gv hgv _ (f_ten j hj))) hA
  have zwTe := va_Zref (hts (.laysStatic "java/lang/Integer" "DigitTens" "[B") (q_memL 806 (by decide +kernel))) (hts (.initialized "java/lang/Integer") (q_memL 23 (by decide +kernel))) ewTe hA
  obtain ⟨wOn, ewOn, twOn⟩ := va_Tof (tm := .static "java/lang/Integer" "DigitOnes" "[B") (ty := .byte) (N := 100) (f := fun j => .int (nI (48 + j % 10))) (A := fun q : Nat => s.heap.size ≤ q) (by decide) (q_gv (c := Cond.arrayOf (.static "java/lang/Integer" "DigitOnes" "[B") .byte) hgv 897 (by decide +kernel)) (va_eqt (q_gv (c := Cond.eq (.length (.static "java/lang/Integer" "DigitOnes" "[B")) (.int (Int32.ofNat 100))) hgv 1921 (by decide +kernel))) (fun j hj => va_eqt (q_gv hgv _ (f_one j hj))) hA
  have zwOn := va_Zref (hts (.laysStatic "java/lang/Integer" "DigitOnes" "[B") (q_memL 804 (by decide +kernel))) (hts (.initialized "java/lang/Integer") (q_memL 23 (by decide +kernel))) ewOn hA
  have zF : ∃ vF : Value, va_Z "jdk/internal/util/Preconditions" "SIOOBE_FORMATTER" "Ljava/util/function/BiFunction;" vF (fun q : Nat => s.heap.size ≤ q) s s.heap ∧ (vF = .null ∨ ∃ t : Nat, vF = .ref t) := by
    rcases va_Zqof (hts (.laysStatic "jdk/internal/util/Preconditions" "SIOOBE_FORMATTER" "Ljava/util/function/BiFunction;") (q_memL 734 (by decide +kernel))) (hts (.initialized "jdk/internal/util/Preconditions") (q_memL 30 (by decide +kernel))) (q_gv (c := Cond.isRef (.static "jdk/internal/util/Preconditions" "SIOOBE_FORMATTER" "Ljava/util/function/BiFunction;")) hgv 1793 (by decide +kernel)) hA with h | ⟨t, h⟩
    · exact ⟨_, h, Or.inl rfl⟩
    · exact ⟨_, h, Or.inr ⟨t, rfl⟩⟩
  obtain ⟨vF, zF, hF⟩ := zF
  have zCS := va_Zof (hts (.laysStatic "java/lang/String" "COMPACT_STRINGS" "Z") (q_memL 220 (by decide +kernel))) (hts (.initialized "java/lang/String") (q_memL 11 (by decide +kernel))) (va_eqi (q_gv (c := Cond.eq (.static "java/lang/String" "COMPACT_STRINGS" "Z") (.int 1)) hgv 1537 (by decide +kernel))) hA
  obtain ⟨scr, x1, x2, x3, x4, x5⟩ := hX
  have tX : va_T .int b L (fun j => .int (xs j)) (fun q : Nat => s.heap.size ≤ q) s s.heap := ⟨scr, x1, x2, x3, Nat.le_of_eq x4.symm, by rw [x4], x5, hA b hbl⟩
  refine ⟨(l, s.heap.size, (dC, dI), ty, q_old b wSw wTe wOn vF aV (fun k => (aS k).1) (fun k => (aS k).2), L, xs), rfl, rfl, rfl, rfl, ⟨hC, hTy⟩, Nat.le_refl _, ?_, vx_Zqof (hts (.laysStatic "java/lang/Throwable" "UNASSIGNED_STACK" "[Ljava/lang/StackTraceElement;") (q_memL 318 (by decide +kernel))) (hts (.initialized "java/lang/Throwable") (q_memL 17 (by decide +kernel))) (q_gv (c := Cond.isRef (.static "java/lang/Throwable" "UNASSIGNED_STACK" "[Ljava/lang/StackTraceElement;")) hgv 257 (by decide +kernel)) hA, vx_Zqof (hts (.laysStatic "java/lang/Throwable" "SUPPRESSED_SENTINEL" "Ljava/util/List;") (q_memL 320 (by decide +kernel))) (hts (.initialized "java/lang/Throwable") (q_memL 17 (by decide +kernel))) (q_gv (c := Cond.isRef (.static "java/lang/Throwable" "SUPPRESSED_SENTINEL" "Ljava/util/List;")) hgv 769 (by decide +kernel)) hA, w_N hts hgv, ?_, ?_, ?_, ?_, fun i => q_oldR (b := b) (aS := wSw) (aT := wTe) (aO := wOn) (aV := aV) (aK := fun k => (aS k).1) (aB := fun k => (aS k).2) hF i⟩
  · show l.stackTraces = false
    unfold Launch.stackTraces
    rw [hflags]
    decide +kernel
  · exact List.forall_mem_cons.mpr ⟨zCS, List.forall_mem_cons.mpr ⟨zwSw, List.forall_mem_cons.mpr ⟨(hV 0 (by decide)).2.1, List.forall_mem_cons.mpr ⟨(hV 1 (by decide)).2.1, List.forall_mem_cons.mpr ⟨(hV 2 (by decide)).2.1, List.forall_mem_cons.mpr ⟨(hV 3 (by decide)).2.1, List.forall_mem_cons.mpr ⟨(hV 4 (by decide)).2.1, List.forall_mem_cons.mpr ⟨(hV 5 (by decide)).2.1, List.forall_mem_cons.mpr ⟨(hV 6 (by decide)).2.1, List.forall_mem_cons.mpr ⟨(hV 7 (by decide)).2.1, List.forall_mem_cons.mpr ⟨(hV 8 (by decide)).2.1, List.forall_mem_cons.mpr ⟨(hV 9 (by decide)).2.1, List.forall_mem_cons.mpr ⟨(hV 10 (by decide)).2.1, List.forall_mem_cons.mpr ⟨zwTe, List.forall_mem_cons.mpr ⟨zwOn, List.forall_mem_cons.mpr ⟨zF, fun _ h => absurd h List.not_mem_nil⟩⟩⟩⟩⟩⟩⟩⟩⟩⟩⟩⟩⟩⟩⟩⟩
  · intro i ty0 n f hi
    unfold q_ar at hi
    split at hi
    · cases hi
      exact ⟨b, rfl, tX⟩
    · cases hi
      exact ⟨wSw, rfl, twSw⟩
    · cases hi
      exact ⟨wTe, rfl, twTe⟩
    · cases hi
      exact ⟨wOn, rfl, twOn⟩
    · by_cases c : 25 ≤ i ∧ i < 36
      · rw [if_pos c] at hi
        cases hi
        obtain ⟨k, rfl⟩ : ∃ k, i = 25 + k := ⟨i - 25, by omega⟩
        refine ⟨(aS k).2, q_oldB (b := b) (aS := wSw) (aT := wTe) (aO := wOn) (vF := vF) (aV := aV) (aK := fun k => (aS k).1) (aB := fun k => (aS k).2) (k := k) (by omega), ?_⟩
        rw [Nat.add_sub_cancel_left]
        exact (hS k (by omega)).2.2.2.2.1
      · rw [if_neg c] at hi
        cases hi
  · intro k hk
    obtain ⟨g1, g2, g3, g4⟩ := hV k hk
    exact ⟨_, q_oldV (b := b) (aS := wSw) (aT := wTe) (aO := wOn) (vF := vF) (aV := aV) (aK := fun k => (aS k).1) (aB := fun k => (aS k).2) hk, g3, g4⟩
  · intro k hk
    obtain ⟨g1, g2, g3, g4, g5, g6⟩ := hS k hk
    refine ⟨_, q_oldK (b := b) (aS := wSw) (aT := wTe) (aO := wOn) (vF := vF) (aV := aV) (aK := fun k => (aS k).1) (aB := fun k => (aS k).2) hk, g2, g3, ?_, g6⟩
    show va_OF _ _ _ (q_old b wSw wTe wOn vF aV (fun k => (aS k).1) (fun k => (aS k).2) (25 + k)) _ _ _ _
    rw [q_oldB hk]
    exact g4
end WORLD