/-- a condition out of a tree of conditions, by its way -/
def q_at : Jvm.Cond → Nat → Jvm.Cond
  | .and a b, p => if p % 2 = 0 then q_at a (p / 2) else q_at b (p / 2)
  | c, _ => c
theorem q_atE {args : Array Value} {s : State} (T : Jvm.Cond) : T.before args s = true → ∀ p, (q_at T p).before args s = true := by
  induction T with
  | and a b iha ihb =>
    intro h p
    rw [Cond.before_and, Bool.and_eq_true] at h
    simp only [q_at]
    split
    · exact iha h.1 _
    · exact ihb h.2 _
  | _ =>
    intro h p
    simp only [q_at]
    exact h
abbrev q_T0 : Jvm.Cond := Jvm.Cond.and given_1 narrow_1
theorem q_gv {args : Array Value} {s : State} {c : Jvm.Cond} (hgv : q_T0.before args s = true) (p : Nat) (h : q_at q_T0 p = c) : c.before args s = true := h ▸ q_atE _ hgv p
theorem q_eqr {args : Array Value} {s : State} {t u : Term} {a : Nat} (h : (Cond.eq t u).before args s = true) (hu : u.eval args s none [] s = some (.ref a)) : t.eval args s none [] s = some (.ref a) := by
  cases hv : t.eval args s none [] s with
  | none => simp [Cond.before, Cond.holds, Cond.value, hv] at h
  | some w =>
    simp only [Cond.before, Cond.holds, Cond.value, hv, hu] at h
    cases w <;> simp_all
theorem va_T.fc {ty : FieldType} {t N : Nat} {f f' : Nat → Value} {A : Nat → Prop} {U : State} {H : Heap} (h : va_T ty t N f A U H) (e : ∀ j, j < N → f j = f' j) : va_T ty t N f' A U H := by
  obtain ⟨cell, h1, h2, h3, h4, h5, h6, h7⟩ := h
  exact ⟨cell, h1, h2, h3, h4, h5, fun j hj => by rw [← e j hj]; exact h6 j hj, h7⟩
def q_vN (k : Nat) : String := (["ADD", "REMOVE", "ATTACK", "YIELD", "WEIGH", "RENEW", "CLAIM", "REPLY", "BACK", "END", "DAYS"] : List String).getD k ""
def q_vK (k : Nat) : Nat := ([61, 67, 70, 73, 76, 79, 82, 85, 88, 91, 94] : List Nat).getD k 0
abbrev q_vS (k : Nat) : Term := .static "ArgumentMap$Verb" (q_vN k) "LArgumentMap$Verb;"
abbrev q_vT (k : Nat) : Term := .string "ArgumentMap$Verb" (q_vK k)
abbrev q_vV (k : Nat) : Term := .field (q_vT k) "java/lang/String" "value" "[B"
theorem f_vex : ∀ k, k < 11 → q_at q_T0 (([513, 2945, 1089, 321, 193, 1473, 3105, 3873, 929, 1377, 1505] : List Nat).getD k 0) = Cond.exactly (q_vS k) "ArgumentMap$Verb" := by decide +kernel
theorem f_vor : ∀ k, k < 11 → q_at q_T0 (([1537, 1921, 3137, 1345, 1217, 3521, 545, 161, 2977, 3425, 3553] : List Nat).getD k 0) = Cond.eq (.field (q_vS k) "java/lang/Enum" "ordinal" "I") (.int (nI k)) := by decide +kernel
theorem f_vpa : ∀ k, k < 11 → q_at q_T0 (([3585, 3969, 577, 3393, 3265, 961, 1569, 1185, 1953, 865, 993] : List Nat).getD k 0) = Cond.eq (.field (q_vS k) "ArgumentMap$Verb" "pattern" "Ljava/lang/String;") (q_vT k) := by decide +kernel
theorem f_sex : ∀ k, k < 11 → q_at q_T0 (([1935, 1359, 1487, 815, 1967, 3951, 2031, 799, 3487, 1631, 3935] : List Nat).getD k 0) = Cond.exactly (q_vT k) "java/lang/String" := by decide +kernel
theorem f_sco : ∀ k, k < 11 → q_at q_T0 (([3983, 3407, 3535, 1839, 4015, 239, 4079, 1823, 927, 3679, 223] : List Nat).getD k 0) = Cond.eq (.field (q_vT k) "java/lang/String" "coder" "B") (.int 0) := by decide +kernel
theorem f_sar : ∀ k, k < 11 → q_at q_T0 (([79, 847, 975, 3887, 111, 1263, 31, 3871, 1951, 351, 1247] : List Nat).getD k 0) = Cond.arrayOf (q_vV k) .byte := by decide +kernel
theorem f_sle : ∀ k, k < 11 → q_at q_T0 (([1103, 1871, 1999, 175, 1135, 3311, 1055, 159, 3999, 1375, 3295] : List Nat).getD k 0) = Cond.eq (.length (q_vV k)) (.int (Int32.ofNat (q_pat k).length)) := by decide +kernel
theorem f_sel : ∀ k, k < 11 → ∀ j, j < (q_pat k).length → q_at q_T0 ((([[3151, 591, 1615, 3663, 335], [3919, 207, 1231, 3279, 719, 1743, 3791, 463], [4047, 47, 1071, 3119, 559, 1583, 3631, 303, 1327, 3375], [1199, 3247, 687, 1711, 3759, 431, 1455, 3503, 943], [3183, 623, 1647, 3695, 367, 1391, 3439, 879, 1903], [751, 1775, 3823, 495, 1519, 3567, 1007], [3103, 543, 1567, 3615, 287, 1311, 3359], [1183, 3231, 671, 1695, 3743, 415, 1439], [95, 1119, 3167, 607], [3423, 863, 1887], [735, 1759, 3807, 479, 1503, 3551]] : List (List Nat)).getD k []).getD j 0) = Cond.eq (.elem (q_vV k) (.int (Int32.ofNat j))) (.int ((q_pat k).getD j 0)) := by decide +kernel
theorem f_veE : ∀ k, k < 11 → q_at q_T0 (([2969, 1945, 3993, 89, 1113, 3161, 601, 1625, 3673, 345, 1369] : List Nat).getD k 0) = Cond.eq (.elem (.static "ArgumentMap" "VERBS" "[LArgumentMap$Verb;") (.int (Int32.ofNat k))) (q_vS k) := by decide +kernel
theorem f_swE : ∀ k, k < 11 → q_at q_T0 (([769, 1793, 3841, 129, 1153, 3201, 641, 1665, 3713, 385, 1409] : List Nat).getD k 0) = Cond.eq (.elem (.static "ArgumentMap$1" "$SwitchMap$ArgumentMap$Verb" "[I") (.int (Int32.ofNat k))) (.int (nI ((k + 1) % 11))) := by decide +kernel
theorem f_lay : ∀ k, k < 11 → tables_1[([518, 785, 794, 803, 812, 821, 830, 839, 848, 857, 866] : List Nat).getD k 0]? = some (Cond.laysStatic "ArgumentMap$Verb" (q_vN k) "LArgumentMap$Verb;") := by decide +kernel
theorem f_ten : ∀ j, j < 100 → q_at q_T0 (([3721, 393, 1417, 3465, 905, 2953, 1929, 3977, 73, 1097, 3145, 585, 1609, 3657, 329, 1353, 3401, 841, 1865, 3913, 201, 1225, 3273, 713, 1737, 3785, 457, 1481, 3529, 969, 3017, 1993, 4041, 41, 1065, 3113, 553, 1577, 3625, 297, 1321, 3369, 809, 1833, 3881, 169, 1193, 3241, 681, 1705, 3753, 425, 1449, 3497, 937, 2985, 1961, 4009, 105, 1129, 3177, 617, 1641, 3689, 361, 1385, 3433, 873, 1897, 3945, 233, 1257, 3305, 745, 1769, 3817, 489, 1513, 3561, 1001, 3049, 2025, 4073, 25, 1049, 3097, 537, 1561, 3609, 281, 1305, 3353, 793, 1817, 3865, 153, 1177, 3225, 665, 1689] : List Nat).getD j 0) = Cond.eq (.elem (.static "java/lang/Integer" "DigitTens" "[B") (.int (Int32.ofNat j))) (.int (nI (48 + j / 10))) := by decide +kernel
theorem f_one : ∀ j, j < 100 → q_at q_T0 (([3217, 657, 1681, 3729, 401, 1425, 3473, 913, 2961, 1937, 3985, 81, 1105, 3153, 593, 1617, 3665, 337, 1361, 3409, 849, 1873, 3921, 209, 1233, 3281, 721, 1745, 3793, 465, 1489, 3537, 977, 3025, 2001, 4049, 49, 1073, 3121, 561, 1585, 3633, 305, 1329, 3377, 817, 1841, 3889, 177, 1201, 3249, 689, 1713, 3761, 433, 1457, 3505, 945, 2993, 1969, 4017, 113, 1137, 3185, 625, 1649, 3697, 369, 1393, 3441, 881, 1905, 3953, 241, 1265, 3313, 753, 1777, 3825, 497, 1521, 3569, 1009, 3057, 2033, 4081, 9, 1033, 3081, 521, 1545, 3593, 265, 1289, 3337, 777, 1801, 3849, 137, 1161] : List Nat).getD j 0) = Cond.eq (.elem (.static "java/lang/Integer" "DigitOnes" "[B") (.int (Int32.ofNat j))) (.int (nI (48 + j % 10))) := by decide +kernel
def q_sx : List (String × Nat × Nat) := [("ArgumentMap$State", 200, 901), ("ArgumentMap$State", 151, 1061), ("ArgumentMap$State", 103, 3493), ("ArgumentMap$State", 165, 3045), ("ArgumentMap$State", 168, 3157), ("ArgumentMap$State", 170, 1077), ("ArgumentMap$State", 172, 1397), ("ArgumentMap$State", 178, 781), ("ArgumentMap$Dialogue", 36, 333), ("ArgumentMap$State", 188, 1581), ("ArgumentMap$State", 193, 749), ("ArgumentMap$Dialogue", 54, 3997), ("ArgumentMap$State", 195, 3389), ("ArgumentMap", 126, 1021), ("ArgumentMap", 161, 1603), ("ArgumentMap", 172, 1315), ("ArgumentMap", 182, 739), ("ArgumentMap", 235, 1427), ("ArgumentMap", 239, 3283), ("ArgumentMap", 245, 627), ("ArgumentMap", 258, 523), ("ArgumentMap", 283, 587), ("java/lang/StringIndexOutOfBoundsException", 13, 1579), ("java/util/Arrays", 337, 1899), ("java/util/Arrays", 48, 3819), ("java/util/Arrays", 57, 283), ("java/util/Arrays", 59, 2971), ("java/lang/ArrayIndexOutOfBoundsException", 13, 3163), ("ArgumentMap", 324, 1339), ("ArgumentMap", 329, 251), ("ArgumentMap", 333, 903), ("ArgumentMap", 343, 1063), ("ArgumentMap", 355, 3687), ("ArgumentMap", 361, 1047), ("ArgumentMap", 363, 215), ("ArgumentMap", 368, 1719), ("ArgumentMap", 373, 1527), ("ArgumentMap$Verb", 61, 1935), ("ArgumentMap$Verb", 67, 1359), ("ArgumentMap$Verb", 70, 1487), ("ArgumentMap$Verb", 73, 815), ("ArgumentMap$Verb", 76, 1967), ("ArgumentMap$Verb", 79, 3951), ("ArgumentMap$Verb", 82, 2031), ("ArgumentMap$Verb", 85, 799), ("ArgumentMap$Verb", 88, 3487), ("ArgumentMap$Verb", 91, 1631), ("ArgumentMap$Verb", 94, 3935)]
theorem q_sx_ok : ∀ z ∈ q_sx, q_at q_T0 z.2.2 = Cond.exactly (.string z.1 z.2.1) "java/lang/String" := by decide +kernel
def q_sck (w : Cond) : Bool := match w with
  | .stringRef a k _ => q_sx.any (fun z => decide (z.1 = a) && decide (z.2.1 = k))
  | _ => true
theorem q_sck_ok : lw_tbl.all q_sck = true := by decide +kernel
theorem q_nc_ok : ∀ i, i < 20 → q_at q_T0 (([185, 3705, 2041, 3205, 1497, 377, 4089, 645, 3545, 1209, 5, 1669, 3033, 697, 3449, 389, 2009, 1721, 889, 1029] : List Nat).getD i 0) = Cond.not (.castable (q_nc.getD i ("", "")).1 (q_nc.getD i ("", "")).2) := by decide +kernel
section WORLD
variable {s : State} {b : Nat}
theorem w_cls (hts : ∀ w ∈ lw_tbl, w.before #[Value.ref b] s = true) : ∃ (dC : Nat → ClassId) (dI : Nat → Nat → Nat), ∀ (k : Nat) (q : vw_C), vwCl[k]? = some q → u_Kn s q.1 q.2.1 q.2.2 (dC k) (dI k) := by
  have h : ∀ k : Nat, ∃ z : ClassId × (Nat → Nat), ∀ q : vw_C, vwCl[k]? = some q → u_Kn s q.1 q.2.1 q.2.2 z.1 z.2 := by
    intro k
    match k with
    | 0 =>
      obtain ⟨c, i, h⟩ := u_known (C := RJ0) (T := TJ0) (N := 4) (n := 4) hts inJ0 (hts (.instantiable RJ0 4) (q_memL 889 (by decide +kernel)))
      exact ⟨(c, i), fun q hq => by cases hq; exact h⟩
    | 1 =>
      obtain ⟨c, i, h⟩ := u_known (C := RJ4) (T := TJ4) (N := 4) (n := 4) hts inJ4 (hts (.instantiable RJ4 4) (q_memL 222 (by decide +kernel)))
      exact ⟨(c, i), fun q hq => by cases hq; exact h⟩
    | 2 =>
      obtain ⟨c, i, h⟩ := u_known (C := RJx00060) (T := TJx00060) (N := 6) (n := 6) hts inJx00060 (hts (.instantiable RJx00060 6) (q_memL 871 (by decide +kernel)))
      exact ⟨(c, i), fun q hq => by cases hq; exact h⟩
    | 3 =>
      obtain ⟨c, i, h⟩ := u_known (C := RJx7c733) (T := TJx7c733) (N := 6) (n := 6) hts inJx7c733 (hts (.instantiable RJx7c733 6) (q_memL 1119 (by decide +kernel)))
      exact ⟨(c, i), fun q hq => by cases hq; exact h⟩
    | 4 =>
      obtain ⟨c, i, h⟩ := u_known (C := RX2) (T := TX2) (N := 5) (n := 5) hts inX2 (hts (.instantiable RX2 5) (q_memL 51 (by decide +kernel)))
      exact ⟨(c, i), fun q hq => by cases hq; exact h⟩
    | 5 =>
      obtain ⟨c, i, h⟩ := u_known (C := RX3) (T := TX3) (N := 3) (n := 3) hts inX3 (hts (.instantiable RX3 3) (q_memL 175 (by decide +kernel)))
      exact ⟨(c, i), fun q hq => by cases hq; exact h⟩
    | 6 =>
      obtain ⟨c, i, h⟩ := u_known (C := RX4) (T := TX4) (N := 2) (n := 2) hts inX4 (hts (.instantiable RX4 2) (q_memL 162 (by decide +kernel)))
      exact ⟨(c, i), fun q hq => by cases hq; exact h⟩
    | 7 =>
      obtain ⟨c, i, h⟩ := u_known (C := RX5) (T := TX5) (N := 3) (n := 3) hts inX5 (hts (.instantiable RX5 3) (q_memL 123 (by decide +kernel)))
      exact ⟨(c, i), fun q hq => by cases hq; exact h⟩
    | 8 =>
      obtain ⟨c, i, h⟩ := u_known (C := RX6) (T := TX6) (N := 3) (n := 3) hts inX6 (hts (.instantiable RX6 3) (q_memL 143 (by decide +kernel)))
      exact ⟨(c, i), fun q hq => by cases hq; exact h⟩
    | 9 =>
      obtain ⟨c, i, h⟩ := u_known (C := RX7) (T := TX7) (N := 6) (n := 6) hts inX7 (hts (.instantiable RX7 6) (q_memL 192 (by decide +kernel)))
      exact ⟨(c, i), fun q hq => by cases hq; exact h⟩
    | 10 =>
      obtain ⟨c, i, h⟩ := u_known (C := RX8) (T := TX8) (N := 9) (n := 9) hts inX8 (hts (.instantiable RX8 9) (q_memL 45 (by decide +kernel)))
      exact ⟨(c, i), fun q hq => by cases hq; exact h⟩
    | 11 =>
      obtain ⟨c, i, h⟩ := u_known (C := RX10) (T := TX10) (N := 13) (n := 13) hts inX10 (hts (.instantiable RX10 13) (q_memL 37 (by decide +kernel)))
      exact ⟨(c, i), fun q hq => by cases hq; exact h⟩
    | 12 =>
      obtain ⟨c, i, h⟩ := u_known (C := RX11) (T := TX11) (N := 20) (n := 20) hts inX11 (hts (.instantiable RX11 20) (q_memL 1532 (by decide +kernel)))
      exact ⟨(c, i), fun q hq => by cases hq; exact h⟩
    | k + 13 => exact ⟨(0, fun _ => 0), fun q hq => by simp [vwCl] at hq⟩
  obtain ⟨f, hf⟩ := Classical.axiomOfChoice h
  exact ⟨fun k => (f k).1, fun k => (f k).2, hf⟩
theorem w_arP {ty : FieldType} (h : (Cond.arrayClass ty).before #[Value.ref b] s = true) : ∃ cA, ArrOfT s cA ty ∧ s.vm.findClass ("[" ++ ty.toString) = some cA := by
  obtain ⟨cA, kA, comp, h1, h2, h3⟩ := Cond.arrayClass_spec h
  exact ⟨cA, fun n z => ⟨fun k h => (by cases h), kA, h2, comp, h3⟩, h1⟩
theorem w_arrs (hts : ∀ w ∈ lw_tbl, w.before #[Value.ref b] s = true) : ∃ ty : Nat → ClassId, ∀ (k : Nat) (q : ClassId × FieldType), ([(ty 0, .int), (ty 1, .boolean), (ty 2, .char), (ty 3, .byte), (ty 4, .long), (ty 5, .double), (ty 6, .object "ArgumentMap$State")] : List (ClassId × FieldType))[k]? = some q → ArrOfT s q.1 q.2 ∧ va_RA s q.1 q.2 := by
  obtain ⟨c0, a0, n0⟩ := w_arP (hts (.arrayClass .int) (q_memL 78 (by decide +kernel)))
  obtain ⟨c1, a1, n1⟩ := w_arP (hts (.arrayClass .boolean) (q_memL 190 (by decide +kernel)))
  obtain ⟨c2, a2, n2⟩ := w_arP (hts (.arrayClass .char) (q_memL 1598 (by decide +kernel)))
  obtain ⟨c3, a3, n3⟩ := w_arP (hts (.arrayClass .byte) (q_memL 253 (by decide +kernel)))
  obtain ⟨c4, a4, n4⟩ := w_arP (hts (.arrayClass .long) (q_memL 2091 (by decide +kernel)))
  obtain ⟨c5, a5, n5⟩ := w_arP (hts (.arrayClass .double) (q_memL 2092 (by decide +kernel)))
  obtain ⟨comp, c6, k6, g1, -, g3, g4, g5⟩ := Cond.arrayOver_spec (hts (.arrayOver (.object "ArgumentMap$State")) (q_memL 129 (by decide +kernel)))
  refine ⟨fun k => match k with
    | 0 => c0
    | 1 => c1
    | 2 => c2
    | 3 => c3
    | 4 => c4
    | 5 => c5
    | _ => c6, ?_⟩
  intro k q hq
  match k with
  | 0 => cases hq; exact ⟨a0, n0⟩
  | 1 => cases hq; exact ⟨a1, n1⟩
  | 2 => cases hq; exact ⟨a2, n2⟩
  | 3 => cases hq; exact ⟨a3, n3⟩
  | 4 => cases hq; exact ⟨a4, n4⟩
  | 5 => cases hq; exact ⟨a5, n5⟩
  | 6 => cases hq; exact ⟨fun n z => ⟨fun k h => (by cases h), k6, g3, comp, g4⟩, k6, comp, g3, g4, g1, g5⟩
  | k + 7 => simp at hq
variable {A : Nat → Prop}
theorem w_str (hgv : q_T0.before #[Value.ref b] s = true) (hA : ∀ a : Nat, a < s.heap.size → ¬ A a) {k : Nat} (hk : k < 11) : ∃ z : Nat × Nat, (q_vT k).eval #[Value.ref b] s none [] s = some (.ref z.1) ∧ va_O "java/lang/String" z.1 A s s.heap ∧ va_OF "java/lang/String" "coder" "B" (.int 0) z.1 A s s.heap ∧ va_OF "java/lang/String" "value" "[B" (.ref z.2) z.1 A s s.heap ∧ va_T .byte z.2 (q_pat k).length (fun j => .int ((q_pat k).getD j 0)) A s s.heap := by
  obtain ⟨a, c, cA, kA, q1, q2, q3, q4, q5, q6, -⟩ := Cond.exactly_spec (q_gv hgv _ (f_sex k hk))
  obtain ⟨t, ht, hT⟩ := va_Tof (f := fun j => .int ((q_pat k).getD j 0)) (A := A) (Nat.lt_of_le_of_lt (z_patlen k) (by decide)) (q_gv hgv _ (f_sar k hk)) (va_eqt (q_gv hgv _ (f_sle k hk))) (fun j hj => va_eqt (q_gv hgv _ (f_sel k hk j hj))) hA
  exact ⟨(a, t), q1, ⟨cA, q3, q5, by rw [q6]; exact q2, hA a (Array.getElem?_eq_some_iff.mp q3).1⟩, vk_OFof q1 (va_eqt (q_gv hgv _ (f_sco k hk))) hA, vk_OFof q1 ht hA, hT⟩
theorem w_verb (hts : ∀ w ∈ lw_tbl, w.before #[Value.ref b] s = true) (hgv : q_T0.before #[Value.ref b] s = true) (hA : ∀ a : Nat, a < s.heap.size → ¬ A a) {k : Nat} (hk : k < 11) : ∃ a : Nat, (q_vS k).eval #[Value.ref b] s none [] s = some (.ref a) ∧ va_Z "ArgumentMap$Verb" (q_vN k) "LArgumentMap$Verb;" (.ref a) A s s.heap ∧ va_O "ArgumentMap$Verb" a A s s.heap ∧ va_OF "java/lang/Enum" "ordinal" "I" (.int (nI k)) a A s s.heap ∧ ∀ t : Nat, (q_vT k).eval #[Value.ref b] s none [] s = some (.ref t) → va_OF "ArgumentMap$Verb" "pattern" "Ljava/lang/String;" (.ref t) a A s s.heap := by
  obtain ⟨a, c, cA, kA, q1, q2, q3, q4, q5, q6, -⟩ := Cond.exactly_spec (q_gv hgv _ (f_vex k hk))
  exact ⟨a, q1, va_Zref (hts _ (q_memL _ (f_lay k hk))) (hts (.initialized "ArgumentMap$Verb") (q_memL 15 (by decide +kernel))) q1 hA, ⟨cA, q3, q5, by rw [q6]; exact q2, hA a (Array.getElem?_eq_some_iff.mp q3).1⟩, vk_OFof q1 (va_eqt (q_gv hgv _ (f_vor k hk))) hA, fun t ht => vk_OFof q1 (q_eqr (q_gv hgv _ (f_vpa k hk)) ht) hA⟩
theorem w_N (hts : ∀ w ∈ lw_tbl, w.before #[Value.ref b] s = true) (hgv : q_T0.before #[Value.ref b] s = true) : q_N s := by
  refine ⟨fun a i x y w => va_Nw.of rfl (hts _ w), fun a i y n d x w => va_Nw.of rfl (hts _ w), fun a c w => va_Nw.of rfl (hts _ w), va_AO.of (hts (.arrayOver (.object "ArgumentMap$State")) (q_memL 129 (by decide +kernel))), fun a k tx w => ?_, fun z hz => ?_, fun x w => va_Nw.of rfl (hts _ w)⟩
  · have h := List.all_eq_true.mp q_sck_ok _ w
    obtain ⟨z, hz, e⟩ := List.any_eq_true.mp (show q_sx.any (fun z => decide (z.1 = a) && decide (z.2.1 = k)) = true from h)
    rw [Bool.and_eq_true, decide_eq_true_eq, decide_eq_true_eq] at e
    have f := q_gv hgv _ (q_sx_ok z hz)
    rw [e.1, e.2] at f
    obtain ⟨t, c, cA, kA, q1, -⟩ := Cond.exactly_spec f
    exact ⟨t, vk_R.of (hts _ w) q1⟩
  · obtain ⟨i, hi, e⟩ := List.getElem_of_mem hz
    have hi20 : i < 20 := hi
    have f := q_gv hgv _ (q_nc_ok i hi20)
    have e2 : q_nc.getD i ("", "") = z := by
      rw [List.getD_eq_getElem?_getD, List.getElem?_eq_getElem hi, e]
      rfl
    rw [e2] at f
    exact va_Nc.of f
/-- what the old cells' pure numbers stand for -/
def q_old (b aS aE aT aO : Nat) (vF : Value) (aV aK aB : Nat → Nat) (i : Nat) : Value :=
  if i < 3 then (if i = 0 then .ref b else if i = 1 then .ref aS else .ref aE) else if i < 14 then .ref (aV (i - 3)) else if i < 25 then .ref (aK (i - 14)) else if i < 36 then .ref (aB (i - 25)) else if i = 36 then .ref aT else if i = 37 then .ref aO else if i = 38 then vF else .null
theorem q_tVo {g : q_G} {i : Nat} (hi : i < 100) : q_tV g (.ref i) = g.2.2.2.2.1 i := if_pos hi
theorem q_oldV {b aS aE aT aO : Nat} {vF : Value} {aV aK aB : Nat → Nat} {k : Nat} (hk : k < 11) : q_old b aS aE aT aO vF aV aK aB (3 + k) = .ref (aV k) := by
  unfold q_old
  rw [if_neg (by omega), if_pos (by omega), Nat.add_sub_cancel_left]
theorem q_oldK {b aS aE aT aO : Nat} {vF : Value} {aV aK aB : Nat → Nat} {k : Nat} (hk : k < 11) : q_old b aS aE aT aO vF aV aK aB (14 + k) = .ref (aK k) := by
  unfold q_old
  rw [if_neg (by omega), if_neg (by omega), if_pos (by omega), Nat.add_sub_cancel_left]
theorem q_oldB {b aS aE aT aO : Nat} {vF : Value} {aV aK aB : Nat → Nat} {k : Nat} (hk : k < 11) : q_old b aS aE aT aO vF aV aK aB (25 + k) = .ref (aB k) := by
  unfold q_old
  rw [if_neg (by omega), if_neg (by omega), if_neg (by omega), if_pos (by omega), Nat.add_sub_cancel_left]
theorem q_oldR {b aS aE aT aO : Nat} {vF : Value} {aV aK aB : Nat → Nat} (hF : vF = .null ∨ ∃ t : Nat, vF = .ref t) (i : Nat) : q_old b aS aE aT aO vF aV aK aB i = .null ∨ ∃ t : Nat, q_old b aS aE aT aO vF aV aK aB i = .ref t := by
  unfold q_old
  by_cases h0 : i < 3
  · rw [if_pos h0]
    by_cases h1 : i = 0
    · rw [if_pos h1]
      exact Or.inr ⟨_, rfl⟩
    · rw [if_neg h1]
      by_cases h2 : i = 1
      · rw [if_pos h2]
        exact Or.inr ⟨_, rfl⟩
      · rw [if_neg h2]
        exact Or.inr ⟨_, rfl⟩
  · rw [if_neg h0]
    by_cases h1 : i < 14
    · rw [if_pos h1]
      exact Or.inr ⟨_, rfl⟩
    · rw [if_neg h1]
      by_cases h2 : i < 25
      · rw [if_pos h2]
        exact Or.inr ⟨_, rfl⟩
      · rw [if_neg h2]
        by_cases h3 : i < 36
        · rw [if_pos h3]
          exact Or.inr ⟨_, rfl⟩
        · rw [if_neg h3]
          by_cases h4 : i = 36
          · rw [if_pos h4]
            exact Or.inr ⟨_, rfl⟩
          · rw [if_neg h4]
            by_cases h5 : i = 37
            · rw [if_pos h5]
              exact Or.inr ⟨_, rfl⟩
            · rw [if_neg h5]
              by_cases h6 : i = 38
              · rw [if_pos h6]
                exact hF
              · rw [if_neg h6]
                exact Or.inl rfl
set_option maxRecDepth 100000 in
set_option maxHeartbeats 4000000 in
theorem q_world {l : Launch} (hflags : l.flags = flags0) {L : Nat} {xs : Nat → Int32} (hts : ∀ w ∈ lw_tbl, w.before #[Value.ref b] s = true) (hX : va_X b L xs s s.heap) (hbl : b < s.heap.size) (hL : L ≤ 1536) (hgv : q_T0.before #[Value.ref b] s = true) : ∃ g : q_G, g.1 = l ∧ g.2.1 = s.heap.size ∧ g.2.2.2.2.2.1 = L ∧ g.2.2.2.2.1 0 = .ref b ∧ q_K g s := by
  have hA : ∀ a : Nat, a < s.heap.size → ¬ (fun q : Nat => s.heap.size ≤ q) a := fun a h => Nat.not_le.mpr h
  obtain ⟨dC, dI, hC⟩ := w_cls hts
  obtain ⟨ty, hTy⟩ := w_arrs hts
  have h0 : ∀ k : Nat, ∃ z : Nat × Nat, k < 11 → _ := fun k => by
    by_cases hk : k < 11
    · obtain ⟨z, hz⟩ := w_str hgv hA hk
      exact ⟨z, fun _ => hz⟩
    · exact ⟨(0, 0), fun h => absurd h hk⟩
  obtain ⟨aS, hS⟩ := Classical.axiomOfChoice h0
  have h1 : ∀ k : Nat, ∃ z : Nat, k < 11 → _ := fun k => by
    by_cases hk : k < 11
    · obtain ⟨z, hz⟩ := w_verb hts hgv hA hk
      exact ⟨z, fun _ => hz⟩
    · exact ⟨0, fun h => absurd h hk⟩
  obtain ⟨aV, hV⟩ := Classical.axiomOfChoice h1
  obtain ⟨wSw, ewSw, twSw⟩ := va_Tof (tm := .static "ArgumentMap$1" "$SwitchMap$ArgumentMap$Verb" "[I") (ty := .int) (N := 11) (f := fun j => .int (nI ((j + 1) % 11))) (A := fun q : Nat => s.heap.size ≤ q) (by decide) (q_gv (c := Cond.arrayOf (.static "ArgumentMap$1" "$SwitchMap$ArgumentMap$Verb" "[I") .int) hgv 1281 (by decide +kernel)) (va_eqt (q_gv (c := Cond.eq (.length (.static "ArgumentMap$1" "$SwitchMap$ArgumentMap$Verb" "[I")) (.int (Int32.ofNat 11))) hgv 3329 (by decide +kernel))) (fun j hj => va_eqt (q_gv hgv _ (f_swE j hj))) hA
  have zwSw := va_Zref (hts (.laysStatic "ArgumentMap$1" "$SwitchMap$ArgumentMap$Verb" "[I") (q_memL 537 (by decide +kernel))) (hts (.initialized "ArgumentMap$1") (q_memL 17 (by decide +kernel))) ewSw hA
  obtain ⟨wVe, ewVe, twVe⟩ := va_Tof (tm := .static "ArgumentMap" "VERBS" "[LArgumentMap$Verb;") (ty := (.object "ArgumentMap$Verb")) (N := 11) (f := fun j => .ref (aV j)) (A := fun q : Nat => s.heap.size ≤ q) (by decide) (q_gv (c := Cond.arrayOf (.static "ArgumentMap" "VERBS" "[LArgumentMap$Verb;") (.object "ArgumentMap$Verb")) hgv 1433 (by decide +kernel)) (va_eqt (q_gv (c := Cond.eq (.length (.static "ArgumentMap" "VERBS" "[LArgumentMap$Verb;")) (.int (Int32.ofNat 11))) hgv 3481 (by decide +kernel))) (fun j hj => q_eqr (q_gv hgv _ (f_veE j hj)) (hV j hj).1) hA
  have zwVe := va_Zref (hts (.laysStatic "ArgumentMap" "VERBS" "[LArgumentMap$Verb;") (q_memL 1440 (by decide +kernel))) (hts (.initialized "ArgumentMap") (q_memL 1 (by decide +kernel))) ewVe hA
  obtain ⟨wTe, ewTe, twTe⟩ := va_Tof (tm := .static "java/lang/Integer" "DigitTens" "[B") (ty := .byte) (N := 100) (f := fun j => .int (nI (48 + j / 10))) (A := fun q : Nat => s.heap.size ≤ q) (by decide) (q_gv (c := Cond.arrayOf (.static "java/lang/Integer" "DigitTens" "[B") .byte) hgv 649 (by decide +kernel)) (va_eqt (q_gv (c := Cond.eq (.length (.static "java/lang/Integer" "DigitTens" "[B")) (.int (Int32.ofNat 100))) hgv 1673 (by decide +kernel))) (fun j hj => va_eqt (q_gv hgv _ (f_ten j hj))) hA
  have zwTe := va_Zref (hts (.laysStatic "java/lang/Integer" "DigitTens" "[B") (q_memL 1256 (by decide +kernel))) (hts (.initialized "java/lang/Integer") (q_memL 24 (by decide +kernel))) ewTe hA
  obtain ⟨wOn, ewOn, twOn⟩ := va_Tof (tm := .static "java/lang/Integer" "DigitOnes" "[B") (ty := .byte) (N := 100) (f := fun j => .int (nI (48 + j % 10))) (A := fun q : Nat => s.heap.size ≤ q) (by decide) (q_gv (c := Cond.arrayOf (.static "java/lang/Integer" "DigitOnes" "[B") .byte) hgv 145 (by decide +kernel)) (va_eqt (q_gv (c := Cond.eq (.length (.static "java/lang/Integer" "DigitOnes" "[B")) (.int (Int32.ofNat 100))) hgv 1169 (by decide +kernel))) (fun j hj => va_eqt (q_gv hgv _ (f_one j hj))) hA
  have zwOn := va_Zref (hts (.laysStatic "java/lang/Integer" "DigitOnes" "[B") (q_memL 1254 (by decide +kernel))) (hts (.initialized "java/lang/Integer") (q_memL 24 (by decide +kernel))) ewOn hA
  have zF : ∃ vF : Value, va_Z "jdk/internal/util/Preconditions" "SIOOBE_FORMATTER" "Ljava/util/function/BiFunction;" vF (fun q : Nat => s.heap.size ≤ q) s s.heap ∧ (vF = .null ∨ ∃ t : Nat, vF = .ref t) := by
    rcases va_Zqof (hts (.laysStatic "jdk/internal/util/Preconditions" "SIOOBE_FORMATTER" "Ljava/util/function/BiFunction;") (q_memL 1184 (by decide +kernel))) (hts (.initialized "jdk/internal/util/Preconditions") (q_memL 34 (by decide +kernel))) (q_gv (c := Cond.isRef (.static "jdk/internal/util/Preconditions" "SIOOBE_FORMATTER" "Ljava/util/function/BiFunction;")) hgv 1297 (by decide +kernel)) hA with h | ⟨t, h⟩
    · exact ⟨_, h, Or.inl rfl⟩
    · exact ⟨_, h, Or.inr ⟨t, rfl⟩⟩
  obtain ⟨vF, zF, hF⟩ := zF
  have zCS := va_Zof (hts (.laysStatic "java/lang/String" "COMPACT_STRINGS" "Z") (q_memL 231 (by decide +kernel))) (hts (.initialized "java/lang/String") (q_memL 11 (by decide +kernel))) (va_eqi (q_gv (c := Cond.eq (.static "java/lang/String" "COMPACT_STRINGS" "Z") (.int 1)) hgv 3073 (by decide +kernel))) hA
  obtain ⟨scr, x1, x2, x3, x4, x5⟩ := hX
  have tX : va_T .int b L (fun j => .int (xs j)) (fun q : Nat => s.heap.size ≤ q) s s.heap := ⟨scr, x1, x2, x3, Nat.le_of_eq x4.symm, by rw [x4], x5, hA b hbl⟩
  refine ⟨(l, s.heap.size, (dC, dI), ty, q_old b wSw wVe wTe wOn vF aV (fun k => (aS k).1) (fun k => (aS k).2), L, xs), rfl, rfl, rfl, rfl, ⟨hC, hTy⟩, Nat.le_refl _, ?_, vx_Zqof (hts (.laysStatic "java/lang/Throwable" "UNASSIGNED_STACK" "[Ljava/lang/StackTraceElement;") (q_memL 578 (by decide +kernel))) (hts (.initialized "java/lang/Throwable") (q_memL 18 (by decide +kernel))) (q_gv (c := Cond.isRef (.static "java/lang/Throwable" "UNASSIGNED_STACK" "[Ljava/lang/StackTraceElement;")) hgv 3457 (by decide +kernel)) hA, vx_Zqof (hts (.laysStatic "java/lang/Throwable" "SUPPRESSED_SENTINEL" "Ljava/util/List;") (q_memL 580 (by decide +kernel))) (hts (.initialized "java/lang/Throwable") (q_memL 18 (by decide +kernel))) (q_gv (c := Cond.isRef (.static "java/lang/Throwable" "SUPPRESSED_SENTINEL" "Ljava/util/List;")) hgv 897 (by decide +kernel)) hA, w_N hts hgv, ?_, ?_, ?_, ?_, fun i => q_oldR (b := b) (aS := wSw) (aE := wVe) (aT := wTe) (aO := wOn) (aV := aV) (aK := fun k => (aS k).1) (aB := fun k => (aS k).2) hF i⟩
  · show l.stackTraces = false
    unfold Launch.stackTraces
    rw [hflags]
    decide +kernel
  · exact List.forall_mem_cons.mpr ⟨zCS, List.forall_mem_cons.mpr ⟨zwSw, List.forall_mem_cons.mpr ⟨zwVe, List.forall_mem_cons.mpr ⟨(hV 0 (by decide)).2.1, List.forall_mem_cons.mpr ⟨(hV 1 (by decide)).2.1, List.forall_mem_cons.mpr ⟨(hV 2 (by decide)).2.1, List.forall_mem_cons.mpr ⟨(hV 3 (by decide)).2.1, List.forall_mem_cons.mpr ⟨(hV 4 (by decide)).2.1, List.forall_mem_cons.mpr ⟨(hV 5 (by decide)).2.1, List.forall_mem_cons.mpr ⟨(hV 6 (by decide)).2.1, List.forall_mem_cons.mpr ⟨(hV 7 (by decide)).2.1, List.forall_mem_cons.mpr ⟨(hV 8 (by decide)).2.1, List.forall_mem_cons.mpr ⟨(hV 9 (by decide)).2.1, List.forall_mem_cons.mpr ⟨(hV 10 (by decide)).2.1, List.forall_mem_cons.mpr ⟨zwTe, List.forall_mem_cons.mpr ⟨zwOn, List.forall_mem_cons.mpr ⟨zF, fun _ h => absurd h List.not_mem_nil⟩⟩⟩⟩⟩⟩⟩⟩⟩⟩⟩⟩⟩⟩⟩⟩⟩
  · intro i ty0 n f hi
    unfold q_ar at hi
    split at hi
    · cases hi
      exact ⟨b, rfl, tX⟩
    · cases hi
      exact ⟨wSw, rfl, twSw⟩
    · cases hi
      exact ⟨wVe, rfl, twVe.fc (fun j hj => ((q_tVo (by omega)).trans (q_oldV (b := b) (aS := wSw) (aE := wVe) (aT := wTe) (aO := wOn) (vF := vF) (aV := aV) (aK := fun k => (aS k).1) (aB := fun k => (aS k).2) hj)).symm)⟩
    · cases hi
      exact ⟨wTe, rfl, twTe⟩
    · cases hi
      exact ⟨wOn, rfl, twOn⟩
    · by_cases c : 25 ≤ i ∧ i < 36
      · rw [if_pos c] at hi
        cases hi
        obtain ⟨k, rfl⟩ : ∃ k, i = 25 + k := ⟨i - 25, by omega⟩
        refine ⟨(aS k).2, q_oldB (b := b) (aS := wSw) (aE := wVe) (aT := wTe) (aO := wOn) (vF := vF) (aV := aV) (aK := fun k => (aS k).1) (aB := fun k => (aS k).2) (k := k) (by omega), ?_⟩
        rw [Nat.add_sub_cancel_left]
        exact (hS k (by omega)).2.2.2.2
      · rw [if_neg c] at hi
        cases hi
  · intro k hk
    obtain ⟨g1, g2, g3, g4, g5⟩ := hV k hk
    refine ⟨_, q_oldV (b := b) (aS := wSw) (aE := wVe) (aT := wTe) (aO := wOn) (vF := vF) (aV := aV) (aK := fun k => (aS k).1) (aB := fun k => (aS k).2) hk, g3, g4, ?_⟩
    show va_OF _ _ _ (q_old b wSw wVe wTe wOn vF aV (fun k => (aS k).1) (fun k => (aS k).2) (14 + k)) _ _ _ _
    rw [q_oldK hk]
    exact g5 _ (hS k hk).1
  · intro k hk
    obtain ⟨g1, g2, g3, g4, g5⟩ := hS k hk
    refine ⟨_, q_oldK (b := b) (aS := wSw) (aE := wVe) (aT := wTe) (aO := wOn) (vF := vF) (aV := aV) (aK := fun k => (aS k).1) (aB := fun k => (aS k).2) hk, g2, g3, ?_⟩
    show va_OF _ _ _ (q_old b wSw wVe wTe wOn vF aV (fun k => (aS k).1) (fun k => (aS k).2) (25 + k)) _ _ _ _
    rw [q_oldB hk]
    exact g4
end WORLD