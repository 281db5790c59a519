theorem q_catch4 {g : q_G} {M : q_M} {d mc ms : Nat} {Q : q_O → q_H → Prop} {kc ks pc : Nat} {ls st : List Value} {h : q_H} {E nm own : String} (pre : List (Nat × Nat × Nat × Nat)) (x : Nat × Nat × Nat × Nat) (suf : List (Nat × Nat × Nat × Nat)) (hh : M.2.2.2.2 = pre ++ x :: suf) (ho : M.1.cls = own)
    (hpass : ∀ z ∈ pre, covers ⟨z.1, z.2.1, z.2.2.1, z.2.2.2⟩ pc = false ∨ (z.2.2.2 ≠ 0 ∧ ∃ n : String, Cond.classLink own z.2.2.2 n ∈ q_WS ∧ (E, n) ∈ q_nc)) (hx : covers ⟨x.1, x.2.1, x.2.2.1, x.2.2.2⟩ pc = true) (h0 : x.2.2.2 ≠ 0)
    (hl : Cond.classLink own x.2.2.2 nm ∈ q_WS) (hca : Cond.castable E nm ∈ lw_tbl)
    {k : Nat} (hd : decode M.2.1 x.2.2.1 = .ok (.astore k, 2)) (hi : (k : Nat) < M.2.2.1) (hok : q_ok1 ls k = true)
    (kk : q_W g M d mc ms Q kc ks (x.2.2.1 + 2) (ls.set k q_u) [] h) : q_X g M d mc ms Q E kc ks pc ls st h := by
  intro p e s m args below meth c H locs mls q9 ce X hR hS hL h9 hv hcl
  have hts := q_hWS X.2.2.2.2.1
  have hN := X.2.2.2.2.2.2.2.1.2.2.2.2.2.1
  refine vx_catch (E := E) (name := nm) (own := own) (by rw [← ho]; exact X.2.2.2.1) (tableOf pre) ⟨x.1, x.2.1, x.2.2.1, x.2.2.2⟩ (tableOf suf) (by rw [X.2.2.2.2.2.2.2.2.1, hh, tableOf, List.map_append]; rfl) ?_ hx h0 (hts _ hl) (va_Nw.use rfl (hN.2.2.1 _ _ hca)) h9 hv hcl ?_
  · intro z hz
    obtain ⟨y, hy, rfl⟩ := List.mem_map.mp hz
    rcases hpass y hy with h1 | ⟨h1, n, h2, h3⟩
    · exact Or.inl h1
    · exact Or.inr ⟨h1, n, hts _ h2, hN.2.2.2.2.2.1 _ h3⟩
  · refine lv_astore X.1 X.2.1 hd hL.has hi rfl (fun ls1 h1 => kk p e s m args below meth c H locs ls1 X hR hS ?_)
    refine ⟨h1.1, by rw [List.length_set]; exact hL.2.1, h1.2.1, fun j w hj hu => ?_⟩
    by_cases hji : j = (k : Nat)
    · subst hji
      rw [List.getElem?_set_self (by rw [hL.2.1]; exact hi)] at hj
      exact absurd (Option.some.inj hj).symm hu
    · rw [List.getElem?_set_ne (fun q => hji q.symm)] at hj
      refine h1.2.2 (j, q_tV g w) (List.mem_cons_of_mem _ (List.mem_filter.mpr ⟨q_pairs_mem hj hu, ?_⟩))
      have h1 : (j == (k : Nat)) = false := by simpa using hji
      by_cases h2 : j + 1 = (k : Nat)
      · have hc : ¬ (q_tV g w).category = 2 := by
          rw [← h2] at hok
          simp only [q_ok1, hj] at hok
          cases w with
          | long x => simp at hok
          | double x => simp at hok
          | ref x => simp [q_catref X.2.2.2.2.2.2.2.1.2.2.2.2.2.2.2.2.2.2]
          | _ => simp [q_tV, Value.category]
        simp [h1, hc]
      · have h3 : (j + 1 == (k : Nat)) = false := by simpa using h2
        simp [h1, h3]
/-! statics and old cells -/
/-- what a wrapper answers: 0, or the place of the exception's class in its handlers -/
def z_cd (cs : List (String × Int32)) : q_O → Int32
  | .inl _ => 0
  | .inr E => (cs.lookup E).getD 0
/-- what it leaves in the first place of out -/
def z_outL (o : q_O) (f : Nat → Int64) (h : q_H) : q_H := match o with
  | .inl (some (.int v)) => q_set h 223 (.inl (4, 1, .inr (.inl (vp_updL f 0 v.toInt64))))
  | _ => h
def z_outD (o : q_O) (f : Nat → UInt64) (h : q_H) : q_H := match o with
  | .inl (some (.double v)) => q_set h 224 (.inl (5, 1, .inr (.inr (.inr (.inl (vf_upd f 0 v))))))
  | .inl (some (.float v)) => q_set h 224 (.inl (5, 1, .inr (.inr (.inr (.inl (vf_upd f 0 (FP.f2d v)))))))
  | _ => h
set_option maxRecDepth 100000 in
theorem e_L_addArgument {g : q_G} {h : q_H} {d dd mc' ms' : Nat} {xa : Int32} {o : q_O} {B : q_H → Prop} {f : Nat → Int64} {fs : List Value} (hr : h.2 100 = some (.inr (11, fs))) (hB : ∀ h1, B h1 → h1.2 223 = some (.inl (4, 1, .inr (.inl f)))) (ho : (∃ v, o = .inl (some (.int v))) ∨ (o = .inr "java/lang/IllegalArgumentException") ∨ (o = .inr "java/lang/IllegalStateException")) (sp : q_Spec g mX10_addArgument dd mc' ms' [.ref 100, .int xa] h (q_chg o B)) (hd : dd + 1 ≤ d) : q_Spec g mL_addArgument d mc' ms' [.ref 100, .int xa, .ref 223] h (q_chg (.inl (some (.int (z_cd [("java/lang/IllegalArgumentException", 1), ("java/lang/IllegalStateException", 2)] o)))) (fun h2 => ∃ h1, B h1 ∧ h2 = z_outL o f h1)) := by
  refine q_enterH (by decide +kernel) (by decide) rfl (Nat.le_of_ble_eq_true rfl) (fun hz => ?_)
  change q_W _ _ _ _ _ _ _ _ _ [.ref 100, .int xa, .ref 223, q_u] [] _
  refine q_aload_n (by first | assumption | omega | decide | (rw [q_R0e]; omega)) dL_addArgument_0 rfl ?_
  refine q_iconst (v := 0) dL_addArgument_1 rfl ?_
  refine q_aload_n (by first | assumption | omega | decide | (rw [q_R0e]; omega)) dL_addArgument_2 rfl ?_
  refine q_iload_n dL_addArgument_3 rfl ?_
  refine q_invV (mc' := mc') (ms' := ms') (d' := dd) (as := [.int xa]) dL_addArgument_4 kM_X10_addArgument kL_L_7 kI_X10_addArgument kS_X10_addArgument rfl (kC_X10.1) hr rfl rfl (Nat.le_of_ble_eq_true rfl) hd (by decide) (by omega) (by omega) sp (fun v h1 hQ => ?_) (fun E h1 hQ => ?_)
  · obtain ⟨eo, hQ⟩ := hQ
    rcases ho with ⟨w, rfl⟩ | rfl | rfl
    · cases eo
      change q_W _ _ _ _ _ _ _ _ 7 [.ref 100, .int xa, .ref 223, q_u] [.int w, .int 0, .ref 223] _
      refine q_i2l dL_addArgument_7 rfl ?_
      refine q_last (f := f) dL_addArgument_8 (hB h1 hQ) (vp_in_nI (n := 0) (N := 1) (by decide) (by decide)) ?_
      refine q_goto 18 dL_addArgument_9 (by decide) ?_
      refine q_iconst (v := 0) dL_addArgument_18 rfl ?_
      exact q_ireturn dL_addArgument_19 rfl rfl (by omega) (by omega) ⟨rfl, h1, hQ, rfl⟩
    · cases eo
    · cases eo
  · obtain ⟨eo, hQ⟩ := hQ
    rcases ho with ⟨w, rfl⟩ | rfl | rfl
    · cases eo
    · cases eo
      refine q_catch (nm := "java/lang/IllegalArgumentException") [] (0, 9, 12, 13) [(0, 9, 15, 15)] rfl rfl (fun z hz9 => absurd hz9 List.not_mem_nil) (by decide) (by decide) kL_L_13 kK_IllegalArgumentException (k := 3) dL_addArgument_12 (by decide) rfl ?_
      change q_W _ _ _ _ _ _ _ _ 13 [.ref 100, .int xa, .ref 223, q_u] [] _
      refine q_iconst (v := 1) dL_addArgument_13 rfl ?_
      exact q_ireturn dL_addArgument_14 rfl rfl (by omega) (by omega) ⟨rfl, h1, hQ, rfl⟩
    · cases eo
      refine q_catch (nm := "java/lang/IllegalStateException") [(0, 9, 12, 13)] (0, 9, 15, 15) [] rfl rfl (fun z hz9 => by
        simp only [List.mem_cons, List.not_mem_nil, or_false] at hz9
        rcases hz9 with rfl
        · exact Or.inr ⟨by decide, "java/lang/IllegalArgumentException", kL_L_13, by simp [q_nc]⟩) (by decide) (by decide) kL_L_15 kK_IllegalStateException (k := 3) dL_addArgument_15 (by decide) rfl ?_
      change q_W _ _ _ _ _ _ _ _ 16 [.ref 100, .int xa, .ref 223, q_u] [] _
      refine q_iconst (v := 2) dL_addArgument_16 rfl ?_
      exact q_ireturn dL_addArgument_17 rfl rfl (by omega) (by omega) ⟨rfl, h1, hQ, rfl⟩
set_option maxRecDepth 100000 in
theorem e_L_removeArgument {g : q_G} {h : q_H} {d dd mc' ms' : Nat} {xa : Int32} {o : q_O} {B : q_H → Prop} {f : Nat → Int64} {fs : List Value} (hr : h.2 100 = some (.inr (11, fs))) (hB : ∀ h1, B h1 → h1.2 223 = some (.inl (4, 1, .inr (.inl f)))) (ho : (∃ v, o = .inl (some (.int v))) ∨ (o = .inr "java/util/NoSuchElementException")) (sp : q_Spec g mX10_removeArgument dd mc' ms' [.ref 100, .int xa] h (q_chg o B)) (hd : dd + 1 ≤ d) : q_Spec g mL_removeArgument d mc' ms' [.ref 100, .int xa, .ref 223] h (q_chg (.inl (some (.int (z_cd [("java/util/NoSuchElementException", 1)] o)))) (fun h2 => ∃ h1, B h1 ∧ h2 = z_outL o f h1)) := by
  refine q_enterH (by decide +kernel) (by decide) rfl (Nat.le_of_ble_eq_true rfl) (fun hz => ?_)
  change q_W _ _ _ _ _ _ _ _ _ [.ref 100, .int xa, .ref 223, q_u] [] _
  refine q_aload_n (by first | assumption | omega | decide | (rw [q_R0e]; omega)) dL_removeArgument_0 rfl ?_
  refine q_iconst (v := 0) dL_removeArgument_1 rfl ?_
  refine q_aload_n (by first | assumption | omega | decide | (rw [q_R0e]; omega)) dL_removeArgument_2 rfl ?_
  refine q_iload_n dL_removeArgument_3 rfl ?_
  refine q_invV (mc' := mc') (ms' := ms') (d' := dd) (as := [.int xa]) dL_removeArgument_4 kM_X10_removeArgument kL_L_17 kI_X10_removeArgument kS_X10_removeArgument rfl (kC_X10.1) hr rfl rfl (Nat.le_of_ble_eq_true rfl) hd (by decide) (by omega) (by omega) sp (fun v h1 hQ => ?_) (fun E h1 hQ => ?_)
  · obtain ⟨eo, hQ⟩ := hQ
    rcases ho with ⟨w, rfl⟩ | rfl
    · cases eo
      change q_W _ _ _ _ _ _ _ _ 7 [.ref 100, .int xa, .ref 223, q_u] [.int w, .int 0, .ref 223] _
      refine q_i2l dL_removeArgument_7 rfl ?_
      refine q_last (f := f) dL_removeArgument_8 (hB h1 hQ) (vp_in_nI (n := 0) (N := 1) (by decide) (by decide)) ?_
      refine q_goto 15 dL_removeArgument_9 (by decide) ?_
      refine q_iconst (v := 0) dL_removeArgument_15 rfl ?_
      exact q_ireturn dL_removeArgument_16 rfl rfl (by omega) (by omega) ⟨rfl, h1, hQ, rfl⟩
    · cases eo
  · obtain ⟨eo, hQ⟩ := hQ
    rcases ho with ⟨w, rfl⟩ | rfl
    · cases eo
    · cases eo
      refine q_catch (nm := "java/util/NoSuchElementException") [] (0, 9, 12, 20) [] rfl rfl (fun z hz9 => absurd hz9 List.not_mem_nil) (by decide) (by decide) kL_L_20 kK_NoSuchElementException (k := 3) dL_removeArgument_12 (by decide) rfl ?_
      change q_W _ _ _ _ _ _ _ _ 13 [.ref 100, .int xa, .ref 223, q_u] [] _
      refine q_iconst (v := 1) dL_removeArgument_13 rfl ?_
      exact q_ireturn dL_removeArgument_14 rfl rfl (by omega) (by omega) ⟨rfl, h1, hQ, rfl⟩
set_option maxRecDepth 100000 in
theorem e_L_addAttack {g : q_G} {h : q_H} {d dd mc' ms' : Nat} {xa : Int32} {xc : Int32} {o : q_O} {B : q_H → Prop} {f : Nat → Int64} {fs : List Value} (hr : h.2 100 = some (.inr (11, fs))) (hB : ∀ h1, B h1 → h1.2 223 = some (.inl (4, 1, .inr (.inl f)))) (ho : (∃ v, o = .inl (some (.int v))) ∨ (o = .inr "java/util/NoSuchElementException") ∨ (o = .inr "java/lang/IllegalArgumentException") ∨ (o = .inr "java/lang/IllegalStateException")) (sp : q_Spec g mX10_addAttack dd mc' ms' [.ref 100, .int xa, .int xc] h (q_chg o B)) (hd : dd + 1 ≤ d) : q_Spec g mL_addAttack d mc' ms' [.ref 100, .int xa, .int xc, .ref 223] h (q_chg (.inl (some (.int (z_cd [("java/util/NoSuchElementException", 1), ("java/lang/IllegalArgumentException", 2), ("java/lang/IllegalStateException", 3)] o)))) (fun h2 => ∃ h1, B h1 ∧ h2 = z_outL o f h1)) := by
  refine q_enterH (by decide +kernel) (by decide) rfl (Nat.le_of_ble_eq_true rfl) (fun hz => ?_)
  change q_W _ _ _ _ _ _ _ _ _ [.ref 100, .int xa, .int xc, .ref 223, q_u] [] _
  refine q_aload_n (by first | assumption | omega | decide | (rw [q_R0e]; omega)) dL_addAttack_0 rfl ?_
  refine q_iconst (v := 0) dL_addAttack_1 rfl ?_
  refine q_aload_n (by first | assumption | omega | decide | (rw [q_R0e]; omega)) dL_addAttack_2 rfl ?_
  refine q_iload_n dL_addAttack_3 rfl ?_
  refine q_iload_n dL_addAttack_4 rfl ?_
  refine q_invV (mc' := mc') (ms' := ms') (d' := dd) (as := [.int xa, .int xc]) dL_addAttack_5 kM_X10_addAttack kL_L_22 kI_X10_addAttack kS_X10_addAttack rfl (kC_X10.1) hr rfl rfl (Nat.le_of_ble_eq_true rfl) hd (by decide) (by omega) (by omega) sp (fun v h1 hQ => ?_) (fun E h1 hQ => ?_)
  · obtain ⟨eo, hQ⟩ := hQ
    rcases ho with ⟨w, rfl⟩ | rfl | rfl | rfl
    · cases eo
      change q_W _ _ _ _ _ _ _ _ 8 [.ref 100, .int xa, .int xc, .ref 223, q_u] [.int w, .int 0, .ref 223] _
      refine q_i2l dL_addAttack_8 rfl ?_
      refine q_last (f := f) dL_addAttack_9 (hB h1 hQ) (vp_in_nI (n := 0) (N := 1) (by decide) (by decide)) ?_
      refine q_goto 25 dL_addAttack_10 (by decide) ?_
      refine q_iconst (v := 0) dL_addAttack_25 rfl ?_
      exact q_ireturn dL_addAttack_26 rfl rfl (by omega) (by omega) ⟨rfl, h1, hQ, rfl⟩
    · cases eo
    · cases eo
    · cases eo
  · obtain ⟨eo, hQ⟩ := hQ
    rcases ho with ⟨w, rfl⟩ | rfl | rfl | rfl
    · cases eo
    · cases eo
      refine q_catch4 (nm := "java/util/NoSuchElementException") [] (0, 10, 13, 20) [(0, 10, 17, 13), (0, 10, 21, 15)] rfl rfl (fun z hz9 => absurd hz9 List.not_mem_nil) (by decide) (by decide) kL_L_20 kK_NoSuchElementException (k := 4) dL_addAttack_13 (by decide) rfl ?_
      change q_W _ _ _ _ _ _ _ _ 15 [.ref 100, .int xa, .int xc, .ref 223, q_u] [] _
      refine q_iconst (v := 1) dL_addAttack_15 rfl ?_
      exact q_ireturn dL_addAttack_16 rfl rfl (by omega) (by omega) ⟨rfl, h1, hQ, rfl⟩
    · cases eo
      refine q_catch4 (nm := "java/lang/IllegalArgumentException") [(0, 10, 13, 20)] (0, 10, 17, 13) [(0, 10, 21, 15)] rfl rfl (fun z hz9 => by
        simp only [List.mem_cons, List.not_mem_nil, or_false] at hz9
        rcases hz9 with rfl
        · exact Or.inr ⟨by decide, "java/util/NoSuchElementException", kL_L_20, by simp [q_nc]⟩) (by decide) (by decide) kL_L_13 kK_IllegalArgumentException (k := 4) dL_addAttack_17 (by decide) rfl ?_
      change q_W _ _ _ _ _ _ _ _ 19 [.ref 100, .int xa, .int xc, .ref 223, q_u] [] _
      refine q_iconst (v := 2) dL_addAttack_19 rfl ?_
      exact q_ireturn dL_addAttack_20 rfl rfl (by omega) (by omega) ⟨rfl, h1, hQ, rfl⟩
    · cases eo
      refine q_catch4 (nm := "java/lang/IllegalStateException") [(0, 10, 13, 20), (0, 10, 17, 13)] (0, 10, 21, 15) [] rfl rfl (fun z hz9 => by
        simp only [List.mem_cons, List.not_mem_nil, or_false] at hz9
        rcases hz9 with rfl | rfl
        · exact Or.inr ⟨by decide, "java/util/NoSuchElementException", kL_L_20, by simp [q_nc]⟩
        · exact Or.inr ⟨by decide, "java/lang/IllegalArgumentException", kL_L_13, by simp [q_nc]⟩) (by decide) (by decide) kL_L_15 kK_IllegalStateException (k := 4) dL_addAttack_21 (by decide) rfl ?_
      change q_W _ _ _ _ _ _ _ _ 23 [.ref 100, .int xa, .int xc, .ref 223, q_u] [] _
      refine q_iconst (v := 3) dL_addAttack_23 rfl ?_
      exact q_ireturn dL_addAttack_24 rfl rfl (by omega) (by omega) ⟨rfl, h1, hQ, rfl⟩
set_option maxRecDepth 100000 in
theorem e_L_removeAttack {g : q_G} {h : q_H} {d dd mc' ms' : Nat} {xa : Int32} {xc : Int32} {o : q_O} {B : q_H → Prop} {f : Nat → Int64} {fs : List Value} (hr : h.2 100 = some (.inr (11, fs))) (hB : ∀ h1, B h1 → h1.2 223 = some (.inl (4, 1, .inr (.inl f)))) (ho : (∃ v, o = .inl (some (.int v))) ∨ (o = .inr "java/util/NoSuchElementException")) (sp : q_Spec g mX10_removeAttack dd mc' ms' [.ref 100, .int xa, .int xc] h (q_chg o B)) (hd : dd + 1 ≤ d) : q_Spec g mL_removeAttack d mc' ms' [.ref 100, .int xa, .int xc, .ref 223] h (q_chg (.inl (some (.int (z_cd [("java/util/NoSuchElementException", 1)] o)))) (fun h2 => ∃ h1, B h1 ∧ h2 = z_outL o f h1)) := by
  refine q_enterH (by decide +kernel) (by decide) rfl (Nat.le_of_ble_eq_true rfl) (fun hz => ?_)
  change q_W _ _ _ _ _ _ _ _ _ [.ref 100, .int xa, .int xc, .ref 223, q_u] [] _
  refine q_aload_n (by first | assumption | omega | decide | (rw [q_R0e]; omega)) dL_removeAttack_0 rfl ?_
  refine q_iconst (v := 0) dL_removeAttack_1 rfl ?_
  refine q_aload_n (by first | assumption | omega | decide | (rw [q_R0e]; omega)) dL_removeAttack_2 rfl ?_
  refine q_iload_n dL_removeAttack_3 rfl ?_
  refine q_iload_n dL_removeAttack_4 rfl ?_
  refine q_invV (mc' := mc') (ms' := ms') (d' := dd) (as := [.int xa, .int xc]) dL_removeAttack_5 kM_X10_removeAttack kL_L_26 kI_X10_removeAttack kS_X10_removeAttack rfl (kC_X10.1) hr rfl rfl (Nat.le_of_ble_eq_true rfl) hd (by decide) (by omega) (by omega) sp (fun v h1 hQ => ?_) (fun E h1 hQ => ?_)
  · obtain ⟨eo, hQ⟩ := hQ
    rcases ho with ⟨w, rfl⟩ | rfl
    · cases eo
      change q_W _ _ _ _ _ _ _ _ 8 [.ref 100, .int xa, .int xc, .ref 223, q_u] [.int w, .int 0, .ref 223] _
      refine q_i2l dL_removeAttack_8 rfl ?_
      refine q_last (f := f) dL_removeAttack_9 (hB h1 hQ) (vp_in_nI (n := 0) (N := 1) (by decide) (by decide)) ?_
      refine q_goto 17 dL_removeAttack_10 (by decide) ?_
      refine q_iconst (v := 0) dL_removeAttack_17 rfl ?_
      exact q_ireturn dL_removeAttack_18 rfl rfl (by omega) (by omega) ⟨rfl, h1, hQ, rfl⟩
    · cases eo
  · obtain ⟨eo, hQ⟩ := hQ
    rcases ho with ⟨w, rfl⟩ | rfl
    · cases eo
    · cases eo
      refine q_catch4 (nm := "java/util/NoSuchElementException") [] (0, 10, 13, 20) [] rfl rfl (fun z hz9 => absurd hz9 List.not_mem_nil) (by decide) (by decide) kL_L_20 kK_NoSuchElementException (k := 4) dL_removeAttack_13 (by decide) rfl ?_
      change q_W _ _ _ _ _ _ _ _ 15 [.ref 100, .int xa, .int xc, .ref 223, q_u] [] _
      refine q_iconst (v := 1) dL_removeAttack_15 rfl ?_
      exact q_ireturn dL_removeAttack_16 rfl rfl (by omega) (by omega) ⟨rfl, h1, hQ, rfl⟩
set_option maxRecDepth 100000 in
theorem e_L_setWeight {g : q_G} {h : q_H} {d dd mc' ms' : Nat} {xa : Int32} {xc : Int32} {o : q_O} {B : q_H → Prop} {f : Nat → Int64} {fs : List Value} (hr : h.2 100 = some (.inr (11, fs))) (hB : ∀ h1, B h1 → h1.2 223 = some (.inl (4, 1, .inr (.inl f)))) (ho : (∃ v, o = .inl (some (.int v))) ∨ (o = .inr "java/util/NoSuchElementException") ∨ (o = .inr "java/lang/IllegalArgumentException")) (sp : q_Spec g mX10_setWeight dd mc' ms' [.ref 100, .int xa, .int xc] h (q_chg o B)) (hd : dd + 1 ≤ d) : q_Spec g mL_setWeight d mc' ms' [.ref 100, .int xa, .int xc, .ref 223] h (q_chg (.inl (some (.int (z_cd [("java/util/NoSuchElementException", 1), ("java/lang/IllegalArgumentException", 2)] o)))) (fun h2 => ∃ h1, B h1 ∧ h2 = z_outL o f h1)) := by
  refine q_enterH (by decide +kernel) (by decide) rfl (Nat.le_of_ble_eq_true rfl) (fun hz => ?_)
  change q_W _ _ _ _ _ _ _ _ _ [.ref 100, .int xa, .int xc, .ref 223, q_u] [] _
  refine q_aload_n (by first | assumption | omega | decide | (rw [q_R0e]; omega)) dL_setWeight_0 rfl ?_
  refine q_iconst (v := 0) dL_setWeight_1 rfl ?_
  refine q_aload_n (by first | assumption | omega | decide | (rw [q_R0e]; omega)) dL_setWeight_2 rfl ?_
  refine q_iload_n dL_setWeight_3 rfl ?_
  refine q_iload_n dL_setWeight_4 rfl ?_
  refine q_invV (mc' := mc') (ms' := ms') (d' := dd) (as := [.int xa, .int xc]) dL_setWeight_5 kM_X10_setWeight kL_L_29 kI_X10_setWeight kS_X10_setWeight rfl (kC_X10.1) hr rfl rfl (Nat.le_of_ble_eq_true rfl) hd (by decide) (by omega) (by omega) sp (fun v h1 hQ => ?_) (fun E h1 hQ => ?_)
  · obtain ⟨eo, hQ⟩ := hQ
    rcases ho with ⟨w, rfl⟩ | rfl | rfl
    · cases eo
      change q_W _ _ _ _ _ _ _ _ 8 [.ref 100, .int xa, .int xc, .ref 223, q_u] [.int w, .int 0, .ref 223] _
      refine q_i2l dL_setWeight_8 rfl ?_
      refine q_last (f := f) dL_setWeight_9 (hB h1 hQ) (vp_in_nI (n := 0) (N := 1) (by decide) (by decide)) ?_
      refine q_goto 21 dL_setWeight_10 (by decide) ?_
      refine q_iconst (v := 0) dL_setWeight_21 rfl ?_
      exact q_ireturn dL_setWeight_22 rfl rfl (by omega) (by omega) ⟨rfl, h1, hQ, rfl⟩
    · cases eo
    · cases eo
  · obtain ⟨eo, hQ⟩ := hQ
    rcases ho with ⟨w, rfl⟩ | rfl | rfl
    · cases eo
    · cases eo
      refine q_catch4 (nm := "java/util/NoSuchElementException") [] (0, 10, 13, 20) [(0, 10, 17, 13)] rfl rfl (fun z hz9 => absurd hz9 List.not_mem_nil) (by decide) (by decide) kL_L_20 kK_NoSuchElementException (k := 4) dL_setWeight_13 (by decide) rfl ?_
      change q_W _ _ _ _ _ _ _ _ 15 [.ref 100, .int xa, .int xc, .ref 223, q_u] [] _
      refine q_iconst (v := 1) dL_setWeight_15 rfl ?_
      exact q_ireturn dL_setWeight_16 rfl rfl (by omega) (by omega) ⟨rfl, h1, hQ, rfl⟩
    · cases eo
      refine q_catch4 (nm := "java/lang/IllegalArgumentException") [(0, 10, 13, 20)] (0, 10, 17, 13) [] rfl rfl (fun z hz9 => by
        simp only [List.mem_cons, List.not_mem_nil, or_false] at hz9
        rcases hz9 with rfl
        · exact Or.inr ⟨by decide, "java/util/NoSuchElementException", kL_L_20, by simp [q_nc]⟩) (by decide) (by decide) kL_L_13 kK_IllegalArgumentException (k := 4) dL_setWeight_17 (by decide) rfl ?_
      change q_W _ _ _ _ _ _ _ _ 19 [.ref 100, .int xa, .int xc, .ref 223, q_u] [] _
      refine q_iconst (v := 2) dL_setWeight_19 rfl ?_
      exact q_ireturn dL_setWeight_20 rfl rfl (by omega) (by omega) ⟨rfl, h1, hQ, rfl⟩
set_option maxRecDepth 100000 in
theorem e_L_renew {g : q_G} {h : q_H} {d dd mc' ms' : Nat} {xa : Int32} {o : q_O} {B : q_H → Prop} {f : Nat → Int64} {fs : List Value} (hr : h.2 100 = some (.inr (11, fs))) (hB : ∀ h1, B h1 → h1.2 223 = some (.inl (4, 1, .inr (.inl f)))) (ho : (∃ v, o = .inl (some (.int v))) ∨ (o = .inr "java/util/NoSuchElementException")) (sp : q_Spec g mX10_renew dd mc' ms' [.ref 100, .int xa] h (q_chg o B)) (hd : dd + 1 ≤ d) : q_Spec g mL_renew d mc' ms' [.ref 100, .int xa, .ref 223] h (q_chg (.inl (some (.int (z_cd [("java/util/NoSuchElementException", 1)] o)))) (fun h2 => ∃ h1, B h1 ∧ h2 = z_outL o f h1)) := by
  refine q_enterH (by decide +kernel) (by decide) rfl (Nat.le_of_ble_eq_true rfl) (fun hz => ?_)
  change q_W _ _ _ _ _ _ _ _ _ [.ref 100, .int xa, .ref 223, q_u] [] _
  refine q_aload_n (by first | assumption | omega | decide | (rw [q_R0e]; omega)) dL_renew_0 rfl ?_
  refine q_iconst (v := 0) dL_renew_1 rfl ?_
  refine q_aload_n (by first | assumption | omega | decide | (rw [q_R0e]; omega)) dL_renew_2 rfl ?_
  refine q_iload_n dL_renew_3 rfl ?_
  refine q_invV (mc' := mc') (ms' := ms') (d' := dd) (as := [.int xa]) dL_renew_4 kM_X10_renew kL_L_32 kI_X10_renew kS_X10_renew rfl (kC_X10.1) hr rfl rfl (Nat.le_of_ble_eq_true rfl) hd (by decide) (by omega) (by omega) sp (fun v h1 hQ => ?_) (fun E h1 hQ => ?_)
  · obtain ⟨eo, hQ⟩ := hQ
    rcases ho with ⟨w, rfl⟩ | rfl
    · cases eo
      change q_W _ _ _ _ _ _ _ _ 7 [.ref 100, .int xa, .ref 223, q_u] [.int w, .int 0, .ref 223] _
      refine q_i2l dL_renew_7 rfl ?_
      refine q_last (f := f) dL_renew_8 (hB h1 hQ) (vp_in_nI (n := 0) (N := 1) (by decide) (by decide)) ?_
      refine q_goto 15 dL_renew_9 (by decide) ?_
      refine q_iconst (v := 0) dL_renew_15 rfl ?_
      exact q_ireturn dL_renew_16 rfl rfl (by omega) (by omega) ⟨rfl, h1, hQ, rfl⟩
    · cases eo
  · obtain ⟨eo, hQ⟩ := hQ
    rcases ho with ⟨w, rfl⟩ | rfl
    · cases eo
    · cases eo
      refine q_catch (nm := "java/util/NoSuchElementException") [] (0, 9, 12, 20) [] rfl rfl (fun z hz9 => absurd hz9 List.not_mem_nil) (by decide) (by decide) kL_L_20 kK_NoSuchElementException (k := 3) dL_renew_12 (by decide) rfl ?_
      change q_W _ _ _ _ _ _ _ _ 13 [.ref 100, .int xa, .ref 223, q_u] [] _
      refine q_iconst (v := 1) dL_renew_13 rfl ?_
      exact q_ireturn dL_renew_14 rfl rfl (by omega) (by omega) ⟨rfl, h1, hQ, rfl⟩
set_option maxRecDepth 100000 in
theorem e_L_startDialogue {g : q_G} {h : q_H} {d dd mc' ms' : Nat} {xa : Int32} {o : q_O} {B : q_H → Prop} {f : Nat → Int64} {fs : List Value} (hr : h.2 100 = some (.inr (11, fs))) (hB : ∀ h1, B h1 → h1.2 223 = some (.inl (4, 1, .inr (.inl f)))) (ho : (∃ v, o = .inl (some (.int v))) ∨ (o = .inr "java/util/NoSuchElementException") ∨ (o = .inr "java/lang/IllegalStateException")) (sp : q_Spec g mX10_startDialogue dd mc' ms' [.ref 100, .int xa] h (q_chg o B)) (hd : dd + 1 ≤ d) : q_Spec g mL_startDialogue d mc' ms' [.ref 100, .int xa, .ref 223] h (q_chg (.inl (some (.int (z_cd [("java/util/NoSuchElementException", 1), ("java/lang/IllegalStateException", 2)] o)))) (fun h2 => ∃ h1, B h1 ∧ h2 = z_outL o f h1)) := by
  refine q_enterH (by decide +kernel) (by decide) rfl (Nat.le_of_ble_eq_true rfl) (fun hz => ?_)
  change q_W _ _ _ _ _ _ _ _ _ [.ref 100, .int xa, .ref 223, q_u] [] _
  refine q_aload_n (by first | assumption | omega | decide | (rw [q_R0e]; omega)) dL_startDialogue_0 rfl ?_
  refine q_iconst (v := 0) dL_startDialogue_1 rfl ?_
  refine q_aload_n (by first | assumption | omega | decide | (rw [q_R0e]; omega)) dL_startDialogue_2 rfl ?_
  refine q_iload_n dL_startDialogue_3 rfl ?_
  refine q_invV (mc' := mc') (ms' := ms') (d' := dd) (as := [.int xa]) dL_startDialogue_4 kM_X10_startDialogue kL_L_35 kI_X10_startDialogue kS_X10_startDialogue rfl (kC_X10.1) hr rfl rfl (Nat.le_of_ble_eq_true rfl) hd (by decide) (by omega) (by omega) sp (fun v h1 hQ => ?_) (fun E h1 hQ => ?_)
  · obtain ⟨eo, hQ⟩ := hQ
    rcases ho with ⟨w, rfl⟩ | rfl | rfl
    · cases eo
      change q_W _ _ _ _ _ _ _ _ 7 [.ref 100, .int xa, .ref 223, q_u] [.int w, .int 0, .ref 223] _
      refine q_i2l dL_startDialogue_7 rfl ?_
      refine q_last (f := f) dL_startDialogue_8 (hB h1 hQ) (vp_in_nI (n := 0) (N := 1) (by decide) (by decide)) ?_
      refine q_goto 18 dL_startDialogue_9 (by decide) ?_
      refine q_iconst (v := 0) dL_startDialogue_18 rfl ?_
      exact q_ireturn dL_startDialogue_19 rfl rfl (by omega) (by omega) ⟨rfl, h1, hQ, rfl⟩
    · cases eo
    · cases eo
  · obtain ⟨eo, hQ⟩ := hQ
    rcases ho with ⟨w, rfl⟩ | rfl | rfl
    · cases eo
    · cases eo
      refine q_catch (nm := "java/util/NoSuchElementException") [] (0, 9, 12, 20) [(0, 9, 15, 15)] rfl rfl (fun z hz9 => absurd hz9 List.not_mem_nil) (by decide) (by decide) kL_L_20 kK_NoSuchElementException (k := 3) dL_startDialogue_12 (by decide) rfl ?_
      change q_W _ _ _ _ _ _ _ _ 13 [.ref 100, .int xa, .ref 223, q_u] [] _
      refine q_iconst (v := 1) dL_startDialogue_13 rfl ?_
      exact q_ireturn dL_startDialogue_14 rfl rfl (by omega) (by omega) ⟨rfl, h1, hQ, rfl⟩
    · cases eo
      refine q_catch (nm := "java/lang/IllegalStateException") [(0, 9, 12, 20)] (0, 9, 15, 15) [] rfl rfl (fun z hz9 => by
        simp only [List.mem_cons, List.not_mem_nil, or_false] at hz9
        rcases hz9 with rfl
        · exact Or.inr ⟨by decide, "java/util/NoSuchElementException", kL_L_20, by simp [q_nc]⟩) (by decide) (by decide) kL_L_15 kK_IllegalStateException (k := 3) dL_startDialogue_15 (by decide) rfl ?_
      change q_W _ _ _ _ _ _ _ _ 16 [.ref 100, .int xa, .ref 223, q_u] [] _
      refine q_iconst (v := 2) dL_startDialogue_16 rfl ?_
      exact q_ireturn dL_startDialogue_17 rfl rfl (by omega) (by omega) ⟨rfl, h1, hQ, rfl⟩
set_option maxRecDepth 100000 in
theorem e_L_move {g : q_G} {h : q_H} {d dd mc' ms' : Nat} {xa : Int32} {o : q_O} {B : q_H → Prop} {f : Nat → Int64} {fs : List Value} (hr : h.2 100 = some (.inr (11, fs))) (hB : ∀ h1, B h1 → h1.2 223 = some (.inl (4, 1, .inr (.inl f)))) (ho : (∃ v, o = .inl (some (.int v))) ∨ (o = .inr "java/util/NoSuchElementException") ∨ (o = .inr "java/lang/IllegalArgumentException") ∨ (o = .inr "java/lang/IllegalStateException")) (sp : q_Spec g mX10_move dd mc' ms' [.ref 100, .int xa] h (q_chg o B)) (hd : dd + 1 ≤ d) : q_Spec g mL_move d mc' ms' [.ref 100, .int xa, .ref 223] h (q_chg (.inl (some (.int (z_cd [("java/util/NoSuchElementException", 1), ("java/lang/IllegalArgumentException", 2), ("java/lang/IllegalStateException", 3)] o)))) (fun h2 => ∃ h1, B h1 ∧ h2 = z_outL o f h1)) := by
  refine q_enterH (by decide +kernel) (by decide) rfl (Nat.le_of_ble_eq_true rfl) (fun hz => ?_)
  change q_W _ _ _ _ _ _ _ _ _ [.ref 100, .int xa, .ref 223, q_u] [] _
  refine q_aload_n (by first | assumption | omega | decide | (rw [q_R0e]; omega)) dL_move_0 rfl ?_
  refine q_iconst (v := 0) dL_move_1 rfl ?_
  refine q_aload_n (by first | assumption | omega | decide | (rw [q_R0e]; omega)) dL_move_2 rfl ?_
  refine q_iload_n dL_move_3 rfl ?_
  refine q_invV (mc' := mc') (ms' := ms') (d' := dd) (as := [.int xa]) dL_move_4 kM_X10_move kL_L_38 kI_X10_move kS_X10_move rfl (kC_X10.1) hr rfl rfl (Nat.le_of_ble_eq_true rfl) hd (by decide) (by omega) (by omega) sp (fun v h1 hQ => ?_) (fun E h1 hQ => ?_)
  · obtain ⟨eo, hQ⟩ := hQ
    rcases ho with ⟨w, rfl⟩ | rfl | rfl | rfl
    · cases eo
      change q_W _ _ _ _ _ _ _ _ 7 [.ref 100, .int xa, .ref 223, q_u] [.int w, .int 0, .ref 223] _
      refine q_i2l dL_move_7 rfl ?_
      refine q_last (f := f) dL_move_8 (hB h1 hQ) (vp_in_nI (n := 0) (N := 1) (by decide) (by decide)) ?_
      refine q_goto 21 dL_move_9 (by decide) ?_
      refine q_iconst (v := 0) dL_move_21 rfl ?_
      exact q_ireturn dL_move_22 rfl rfl (by omega) (by omega) ⟨rfl, h1, hQ, rfl⟩
    · cases eo
    · cases eo
    · cases eo
  · obtain ⟨eo, hQ⟩ := hQ
    rcases ho with ⟨w, rfl⟩ | rfl | rfl | rfl
    · cases eo
    · cases eo
      refine q_catch (nm := "java/util/NoSuchElementException") [] (0, 9, 12, 20) [(0, 9, 15, 13), (0, 9, 18, 15)] rfl rfl (fun z hz9 => absurd hz9 List.not_mem_nil) (by decide) (by decide) kL_L_20 kK_NoSuchElementException (k := 3) dL_move_12 (by decide) rfl ?_
      change q_W _ _ _ _ _ _ _ _ 13 [.ref 100, .int xa, .ref 223, q_u] [] _
      refine q_iconst (v := 1) dL_move_13 rfl ?_
      exact q_ireturn dL_move_14 rfl rfl (by omega) (by omega) ⟨rfl, h1, hQ, rfl⟩
    · cases eo
      refine q_catch (nm := "java/lang/IllegalArgumentException") [(0, 9, 12, 20)] (0, 9, 15, 13) [(0, 9, 18, 15)] rfl rfl (fun z hz9 => by
        simp only [List.mem_cons, List.not_mem_nil, or_false] at hz9
        rcases hz9 with rfl
        · exact Or.inr ⟨by decide, "java/util/NoSuchElementException", kL_L_20, by simp [q_nc]⟩) (by decide) (by decide) kL_L_13 kK_IllegalArgumentException (k := 3) dL_move_15 (by decide) rfl ?_
      change q_W _ _ _ _ _ _ _ _ 16 [.ref 100, .int xa, .ref 223, q_u] [] _
      refine q_iconst (v := 2) dL_move_16 rfl ?_
      exact q_ireturn dL_move_17 rfl rfl (by omega) (by omega) ⟨rfl, h1, hQ, rfl⟩
    · cases eo
      refine q_catch (nm := "java/lang/IllegalStateException") [(0, 9, 12, 20), (0, 9, 15, 13)] (0, 9, 18, 15) [] rfl rfl (fun z hz9 => by
        simp only [List.mem_cons, List.not_mem_nil, or_false] at hz9
        rcases hz9 with rfl | rfl
        · exact Or.inr ⟨by decide, "java/util/NoSuchElementException", kL_L_20, by simp [q_nc]⟩
        · exact Or.inr ⟨by decide, "java/lang/IllegalArgumentException", kL_L_13, by simp [q_nc]⟩) (by decide) (by decide) kL_L_15 kK_IllegalStateException (k := 3) dL_move_18 (by decide) rfl ?_
      change q_W _ _ _ _ _ _ _ _ 19 [.ref 100, .int xa, .ref 223, q_u] [] _
      refine q_iconst (v := 3) dL_move_19 rfl ?_
      exact q_ireturn dL_move_20 rfl rfl (by omega) (by omega) ⟨rfl, h1, hQ, rfl⟩
set_option maxRecDepth 100000 in
theorem e_L_takeBack {g : q_G} {h : q_H} {d dd mc' ms' : Nat}  {o : q_O} {B : q_H → Prop} {f : Nat → Int64} {fs : List Value} (hr : h.2 100 = some (.inr (11, fs))) (hB : ∀ h1, B h1 → h1.2 223 = some (.inl (4, 1, .inr (.inl f)))) (ho : (∃ v, o = .inl (some (.int v))) ∨ (o = .inr "java/util/NoSuchElementException") ∨ (o = .inr "java/lang/IllegalStateException")) (sp : q_Spec g mX10_takeBack dd mc' ms' [.ref 100] h (q_chg o B)) (hd : dd + 1 ≤ d) : q_Spec g mL_takeBack d mc' ms' [.ref 100, .ref 223] h (q_chg (.inl (some (.int (z_cd [("java/util/NoSuchElementException", 1), ("java/lang/IllegalStateException", 2)] o)))) (fun h2 => ∃ h1, B h1 ∧ h2 = z_outL o f h1)) := by
  refine q_enterH (by decide +kernel) (by decide) rfl (Nat.le_of_ble_eq_true rfl) (fun hz => ?_)
  change q_W _ _ _ _ _ _ _ _ _ [.ref 100, .ref 223, q_u] [] _
  refine q_aload_n (by first | assumption | omega | decide | (rw [q_R0e]; omega)) dL_takeBack_0 rfl ?_
  refine q_iconst (v := 0) dL_takeBack_1 rfl ?_
  refine q_aload_n (by first | assumption | omega | decide | (rw [q_R0e]; omega)) dL_takeBack_2 rfl ?_
  refine q_invV (mc' := mc') (ms' := ms') (d' := dd) (as := []) dL_takeBack_3 kM_X10_takeBack kL_L_41 kI_X10_takeBack kS_X10_takeBack rfl (kC_X10.1) hr rfl rfl (Nat.le_of_ble_eq_true rfl) hd (by decide) (by omega) (by omega) sp (fun v h1 hQ => ?_) (fun E h1 hQ => ?_)
  · obtain ⟨eo, hQ⟩ := hQ
    rcases ho with ⟨w, rfl⟩ | rfl | rfl
    · cases eo
      change q_W _ _ _ _ _ _ _ _ 6 [.ref 100, .ref 223, q_u] [.int w, .int 0, .ref 223] _
      refine q_i2l dL_takeBack_6 rfl ?_
      refine q_last (f := f) dL_takeBack_7 (hB h1 hQ) (vp_in_nI (n := 0) (N := 1) (by decide) (by decide)) ?_
      refine q_goto 17 dL_takeBack_8 (by decide) ?_
      refine q_iconst (v := 0) dL_takeBack_17 rfl ?_
      exact q_ireturn dL_takeBack_18 rfl rfl (by omega) (by omega) ⟨rfl, h1, hQ, rfl⟩
    · cases eo
    · cases eo
  · obtain ⟨eo, hQ⟩ := hQ
    rcases ho with ⟨w, rfl⟩ | rfl | rfl
    · cases eo
    · cases eo
      refine q_catch (nm := "java/util/NoSuchElementException") [] (0, 8, 11, 20) [(0, 8, 14, 15)] rfl rfl (fun z hz9 => absurd hz9 List.not_mem_nil) (by decide) (by decide) kL_L_20 kK_NoSuchElementException (k := 2) dL_takeBack_11 (by decide) rfl ?_
      change q_W _ _ _ _ _ _ _ _ 12 [.ref 100, .ref 223, q_u] [] _
      refine q_iconst (v := 1) dL_takeBack_12 rfl ?_
      exact q_ireturn dL_takeBack_13 rfl rfl (by omega) (by omega) ⟨rfl, h1, hQ, rfl⟩
    · cases eo
      refine q_catch (nm := "java/lang/IllegalStateException") [(0, 8, 11, 20)] (0, 8, 14, 15) [] rfl rfl (fun z hz9 => by
        simp only [List.mem_cons, List.not_mem_nil, or_false] at hz9
        rcases hz9 with rfl
        · exact Or.inr ⟨by decide, "java/util/NoSuchElementException", kL_L_20, by simp [q_nc]⟩) (by decide) (by decide) kL_L_15 kK_IllegalStateException (k := 2) dL_takeBack_14 (by decide) rfl ?_
      change q_W _ _ _ _ _ _ _ _ 15 [.ref 100, .ref 223, q_u] [] _
      refine q_iconst (v := 2) dL_takeBack_15 rfl ?_
      exact q_ireturn dL_takeBack_16 rfl rfl (by omega) (by omega) ⟨rfl, h1, hQ, rfl⟩
set_option maxRecDepth 100000 in
theorem e_L_endDialogue {g : q_G} {h : q_H} {d dd mc' ms' : Nat}  {o : q_O} {B : q_H → Prop} {f : Nat → Int64} {fs : List Value} (hr : h.2 100 = some (.inr (11, fs))) (hB : ∀ h1, B h1 → h1.2 223 = some (.inl (4, 1, .inr (.inl f)))) (ho : (∃ v, o = .inl (some (.int v))) ∨ (o = .inr "java/util/NoSuchElementException")) (sp : q_Spec g mX10_endDialogue dd mc' ms' [.ref 100] h (q_chg o B)) (hd : dd + 1 ≤ d) : q_Spec g mL_endDialogue d mc' ms' [.ref 100, .ref 223] h (q_chg (.inl (some (.int (z_cd [("java/util/NoSuchElementException", 1)] o)))) (fun h2 => ∃ h1, B h1 ∧ h2 = z_outL o f h1)) := by
  refine q_enterH (by decide +kernel) (by decide) rfl (Nat.le_of_ble_eq_true rfl) (fun hz => ?_)
  change q_W _ _ _ _ _ _ _ _ _ [.ref 100, .ref 223, q_u] [] _
  refine q_aload_n (by first | assumption | omega | decide | (rw [q_R0e]; omega)) dL_endDialogue_0 rfl ?_
  refine q_iconst (v := 0) dL_endDialogue_1 rfl ?_
  refine q_aload_n (by first | assumption | omega | decide | (rw [q_R0e]; omega)) dL_endDialogue_2 rfl ?_
  refine q_invV (mc' := mc') (ms' := ms') (d' := dd) (as := []) dL_endDialogue_3 kM_X10_endDialogue kL_L_45 kI_X10_endDialogue kS_X10_endDialogue rfl (kC_X10.1) hr rfl rfl (Nat.le_of_ble_eq_true rfl) hd (by decide) (by omega) (by omega) sp (fun v h1 hQ => ?_) (fun E h1 hQ => ?_)
  · obtain ⟨eo, hQ⟩ := hQ
    rcases ho with ⟨w, rfl⟩ | rfl
    · cases eo
      change q_W _ _ _ _ _ _ _ _ 6 [.ref 100, .ref 223, q_u] [.int w, .int 0, .ref 223] _
      refine q_i2l dL_endDialogue_6 rfl ?_
      refine q_last (f := f) dL_endDialogue_7 (hB h1 hQ) (vp_in_nI (n := 0) (N := 1) (by decide) (by decide)) ?_
      refine q_goto 14 dL_endDialogue_8 (by decide) ?_
      refine q_iconst (v := 0) dL_endDialogue_14 rfl ?_
      exact q_ireturn dL_endDialogue_15 rfl rfl (by omega) (by omega) ⟨rfl, h1, hQ, rfl⟩
    · cases eo
  · obtain ⟨eo, hQ⟩ := hQ
    rcases ho with ⟨w, rfl⟩ | rfl
    · cases eo
    · cases eo
      refine q_catch (nm := "java/util/NoSuchElementException") [] (0, 8, 11, 20) [] rfl rfl (fun z hz9 => absurd hz9 List.not_mem_nil) (by decide) (by decide) kL_L_20 kK_NoSuchElementException (k := 2) dL_endDialogue_11 (by decide) rfl ?_
      change q_W _ _ _ _ _ _ _ _ 12 [.ref 100, .ref 223, q_u] [] _
      refine q_iconst (v := 1) dL_endDialogue_12 rfl ?_
      exact q_ireturn dL_endDialogue_13 rfl rfl (by omega) (by omega) ⟨rfl, h1, hQ, rfl⟩
set_option maxRecDepth 100000 in
theorem e_L_pass {g : q_G} {h : q_H} {d dd mc' ms' : Nat} {xa : Int32} {o : q_O} {B : q_H → Prop} {f : Nat → Int64} {fs : List Value} (hr : h.2 100 = some (.inr (11, fs))) (hB : ∀ h1, B h1 → h1.2 223 = some (.inl (4, 1, .inr (.inl f)))) (ho : (∃ v, o = .inl (some (.int v))) ∨ (o = .inr "java/lang/IllegalArgumentException")) (sp : q_Spec g mX10_pass dd mc' ms' [.ref 100, .int xa] h (q_chg o B)) (hd : dd + 1 ≤ d) : q_Spec g mL_pass d mc' ms' [.ref 100, .int xa, .ref 223] h (q_chg (.inl (some (.int (z_cd [("java/lang/IllegalArgumentException", 1)] o)))) (fun h2 => ∃ h1, B h1 ∧ h2 = z_outL o f h1)) := by
  refine q_enterH (by decide +kernel) (by decide) rfl (Nat.le_of_ble_eq_true rfl) (fun hz => ?_)
  change q_W _ _ _ _ _ _ _ _ _ [.ref 100, .int xa, .ref 223, q_u] [] _
  refine q_aload_n (by first | assumption | omega | decide | (rw [q_R0e]; omega)) dL_pass_0 rfl ?_
  refine q_iconst (v := 0) dL_pass_1 rfl ?_
  refine q_aload_n (by first | assumption | omega | decide | (rw [q_R0e]; omega)) dL_pass_2 rfl ?_
  refine q_iload_n dL_pass_3 rfl ?_
  refine q_invV (mc' := mc') (ms' := ms') (d' := dd) (as := [.int xa]) dL_pass_4 kM_X10_pass kL_L_49 kI_X10_pass kS_X10_pass rfl (kC_X10.1) hr rfl rfl (Nat.le_of_ble_eq_true rfl) hd (by decide) (by omega) (by omega) sp (fun v h1 hQ => ?_) (fun E h1 hQ => ?_)
  · obtain ⟨eo, hQ⟩ := hQ
    rcases ho with ⟨w, rfl⟩ | rfl
    · cases eo
      change q_W _ _ _ _ _ _ _ _ 7 [.ref 100, .int xa, .ref 223, q_u] [.int w, .int 0, .ref 223] _
      refine q_i2l dL_pass_7 rfl ?_
      refine q_last (f := f) dL_pass_8 (hB h1 hQ) (vp_in_nI (n := 0) (N := 1) (by decide) (by decide)) ?_
      refine q_goto 15 dL_pass_9 (by decide) ?_
      refine q_iconst (v := 0) dL_pass_15 rfl ?_
      exact q_ireturn dL_pass_16 rfl rfl (by omega) (by omega) ⟨rfl, h1, hQ, rfl⟩
    · cases eo
  · obtain ⟨eo, hQ⟩ := hQ
    rcases ho with ⟨w, rfl⟩ | rfl
    · cases eo
    · cases eo
      refine q_catch (nm := "java/lang/IllegalArgumentException") [] (0, 9, 12, 13) [] rfl rfl (fun z hz9 => absurd hz9 List.not_mem_nil) (by decide) (by decide) kL_L_13 kK_IllegalArgumentException (k := 3) dL_pass_12 (by decide) rfl ?_
      change q_W _ _ _ _ _ _ _ _ 13 [.ref 100, .int xa, .ref 223, q_u] [] _
      refine q_iconst (v := 1) dL_pass_13 rfl ?_
      exact q_ireturn dL_pass_14 rfl rfl (by omega) (by omega) ⟨rfl, h1, hQ, rfl⟩
set_option maxRecDepth 100000 in
theorem e_L_idAt {g : q_G} {h : q_H} {d dd mc' ms' : Nat} {xa : Int32} {o : q_O} {B : q_H → Prop} {f : Nat → Int64} {fs : List Value} (hr : h.2 100 = some (.inr (11, fs))) (hB : ∀ h1, B h1 → h1.2 223 = some (.inl (4, 1, .inr (.inl f)))) (ho : (∃ v, o = .inl (some (.int v))) ∨ (o = .inr "java/lang/IndexOutOfBoundsException")) (sp : q_Spec g mX10_idAt dd mc' ms' [.ref 100, .int xa] h (q_chg o B)) (hd : dd + 1 ≤ d) : q_Spec g mL_idAt d mc' ms' [.ref 100, .int xa, .ref 223] h (q_chg (.inl (some (.int (z_cd [("java/lang/IndexOutOfBoundsException", 1)] o)))) (fun h2 => ∃ h1, B h1 ∧ h2 = z_outL o f h1)) := by
  refine q_enterH (by decide +kernel) (by decide) rfl (Nat.le_of_ble_eq_true rfl) (fun hz => ?_)
  change q_W _ _ _ _ _ _ _ _ _ [.ref 100, .int xa, .ref 223, q_u] [] _
  refine q_aload_n (by first | assumption | omega | decide | (rw [q_R0e]; omega)) dL_idAt_0 rfl ?_
  refine q_iconst (v := 0) dL_idAt_1 rfl ?_
  refine q_aload_n (by first | assumption | omega | decide | (rw [q_R0e]; omega)) dL_idAt_2 rfl ?_
  refine q_iload_n dL_idAt_3 rfl ?_
  refine q_invV (mc' := mc') (ms' := ms') (d' := dd) (as := [.int xa]) dL_idAt_4 kM_X10_idAt kL_L_52 kI_X10_idAt kS_X10_idAt rfl (kC_X10.1) hr rfl rfl (Nat.le_of_ble_eq_true rfl) hd (by decide) (by omega) (by omega) sp (fun v h1 hQ => ?_) (fun E h1 hQ => ?_)
  · obtain ⟨eo, hQ⟩ := hQ
    rcases ho with ⟨w, rfl⟩ | rfl
    · cases eo
      change q_W _ _ _ _ _ _ _ _ 7 [.ref 100, .int xa, .ref 223, q_u] [.int w, .int 0, .ref 223] _
      refine q_i2l dL_idAt_7 rfl ?_
      refine q_last (f := f) dL_idAt_8 (hB h1 hQ) (vp_in_nI (n := 0) (N := 1) (by decide) (by decide)) ?_
      refine q_goto 15 dL_idAt_9 (by decide) ?_
      refine q_iconst (v := 0) dL_idAt_15 rfl ?_
      exact q_ireturn dL_idAt_16 rfl rfl (by omega) (by omega) ⟨rfl, h1, hQ, rfl⟩
    · cases eo
  · obtain ⟨eo, hQ⟩ := hQ
    rcases ho with ⟨w, rfl⟩ | rfl
    · cases eo
    · cases eo
      refine q_catch (nm := "java/lang/IndexOutOfBoundsException") [] (0, 9, 12, 55) [] rfl rfl (fun z hz9 => absurd hz9 List.not_mem_nil) (by decide) (by decide) kL_L_55 kK_IndexOutOfBoundsException (k := 3) dL_idAt_12 (by decide) rfl ?_
      change q_W _ _ _ _ _ _ _ _ 13 [.ref 100, .int xa, .ref 223, q_u] [] _
      refine q_iconst (v := 1) dL_idAt_13 rfl ?_
      exact q_ireturn dL_idAt_14 rfl rfl (by omega) (by omega) ⟨rfl, h1, hQ, rfl⟩
set_option maxRecDepth 100000 in
theorem e_L_weightOf {g : q_G} {h : q_H} {d dd mc' ms' : Nat} {xa : Int32} {o : q_O} {B : q_H → Prop} {f : Nat → Int64} {fs : List Value} (hr : h.2 100 = some (.inr (11, fs))) (hB : ∀ h1, B h1 → h1.2 223 = some (.inl (4, 1, .inr (.inl f)))) (ho : (∃ v, o = .inl (some (.int v))) ∨ (o = .inr "java/util/NoSuchElementException")) (sp : q_Spec g mX10_weightOf dd mc' ms' [.ref 100, .int xa] h (q_chg o B)) (hd : dd + 1 ≤ d) : q_Spec g mL_weightOf d mc' ms' [.ref 100, .int xa, .ref 223] h (q_chg (.inl (some (.int (z_cd [("java/util/NoSuchElementException", 1)] o)))) (fun h2 => ∃ h1, B h1 ∧ h2 = z_outL o f h1)) := by
  refine q_enterH (by decide +kernel) (by decide) rfl (Nat.le_of_ble_eq_true rfl) (fun hz => ?_)
  change q_W _ _ _ _ _ _ _ _ _ [.ref 100, .int xa, .ref 223, q_u] [] _
  refine q_aload_n (by first | assumption | omega | decide | (rw [q_R0e]; omega)) dL_weightOf_0 rfl ?_
  refine q_iconst (v := 0) dL_weightOf_1 rfl ?_
  refine q_aload_n (by first | assumption | omega | decide | (rw [q_R0e]; omega)) dL_weightOf_2 rfl ?_
  refine q_iload_n dL_weightOf_3 rfl ?_
  refine q_invV (mc' := mc') (ms' := ms') (d' := dd) (as := [.int xa]) dL_weightOf_4 kM_X10_weightOf kL_L_57 kI_X10_weightOf kS_X10_weightOf rfl (kC_X10.1) hr rfl rfl (Nat.le_of_ble_eq_true rfl) hd (by decide) (by omega) (by omega) sp (fun v h1 hQ => ?_) (fun E h1 hQ => ?_)
  · obtain ⟨eo, hQ⟩ := hQ
    rcases ho with ⟨w, rfl⟩ | rfl
    · cases eo
      change q_W _ _ _ _ _ _ _ _ 7 [.ref 100, .int xa, .ref 223, q_u] [.int w, .int 0, .ref 223] _
      refine q_i2l dL_weightOf_7 rfl ?_
      refine q_last (f := f) dL_weightOf_8 (hB h1 hQ) (vp_in_nI (n := 0) (N := 1) (by decide) (by decide)) ?_
      refine q_goto 15 dL_weightOf_9 (by decide) ?_
      refine q_iconst (v := 0) dL_weightOf_15 rfl ?_
      exact q_ireturn dL_weightOf_16 rfl rfl (by omega) (by omega) ⟨rfl, h1, hQ, rfl⟩
    · cases eo
  · obtain ⟨eo, hQ⟩ := hQ
    rcases ho with ⟨w, rfl⟩ | rfl
    · cases eo
    · cases eo
      refine q_catch (nm := "java/util/NoSuchElementException") [] (0, 9, 12, 20) [] rfl rfl (fun z hz9 => absurd hz9 List.not_mem_nil) (by decide) (by decide) kL_L_20 kK_NoSuchElementException (k := 3) dL_weightOf_12 (by decide) rfl ?_
      change q_W _ _ _ _ _ _ _ _ 13 [.ref 100, .int xa, .ref 223, q_u] [] _
      refine q_iconst (v := 1) dL_weightOf_13 rfl ?_
      exact q_ireturn dL_weightOf_14 rfl rfl (by omega) (by omega) ⟨rfl, h1, hQ, rfl⟩
set_option maxRecDepth 100000 in
theorem e_L_ageOf {g : q_G} {h : q_H} {d dd mc' ms' : Nat} {xa : Int32} {o : q_O} {B : q_H → Prop} {f : Nat → Int64} {fs : List Value} (hr : h.2 100 = some (.inr (11, fs))) (hB : ∀ h1, B h1 → h1.2 223 = some (.inl (4, 1, .inr (.inl f)))) (ho : (∃ v, o = .inl (some (.int v))) ∨ (o = .inr "java/util/NoSuchElementException")) (sp : q_Spec g mX10_ageOf dd mc' ms' [.ref 100, .int xa] h (q_chg o B)) (hd : dd + 1 ≤ d) : q_Spec g mL_ageOf d mc' ms' [.ref 100, .int xa, .ref 223] h (q_chg (.inl (some (.int (z_cd [("java/util/NoSuchElementException", 1)] o)))) (fun h2 => ∃ h1, B h1 ∧ h2 = z_outL o f h1)) := by
  refine q_enterH (by decide +kernel) (by decide) rfl (Nat.le_of_ble_eq_true rfl) (fun hz => ?_)
  change q_W _ _ _ _ _ _ _ _ _ [.ref 100, .int xa, .ref 223, q_u] [] _
  refine q_aload_n (by first | assumption | omega | decide | (rw [q_R0e]; omega)) dL_ageOf_0 rfl ?_
  refine q_iconst (v := 0) dL_ageOf_1 rfl ?_
  refine q_aload_n (by first | assumption | omega | decide | (rw [q_R0e]; omega)) dL_ageOf_2 rfl ?_
  refine q_iload_n dL_ageOf_3 rfl ?_
  refine q_invV (mc' := mc') (ms' := ms') (d' := dd) (as := [.int xa]) dL_ageOf_4 kM_X10_ageOf kL_L_60 kI_X10_ageOf kS_X10_ageOf rfl (kC_X10.1) hr rfl rfl (Nat.le_of_ble_eq_true rfl) hd (by decide) (by omega) (by omega) sp (fun v h1 hQ => ?_) (fun E h1 hQ => ?_)
  · obtain ⟨eo, hQ⟩ := hQ
    rcases ho with ⟨w, rfl⟩ | rfl
    · cases eo
      change q_W _ _ _ _ _ _ _ _ 7 [.ref 100, .int xa, .ref 223, q_u] [.int w, .int 0, .ref 223] _
      refine q_i2l dL_ageOf_7 rfl ?_
      refine q_last (f := f) dL_ageOf_8 (hB h1 hQ) (vp_in_nI (n := 0) (N := 1) (by decide) (by decide)) ?_
      refine q_goto 15 dL_ageOf_9 (by decide) ?_
      refine q_iconst (v := 0) dL_ageOf_15 rfl ?_
      exact q_ireturn dL_ageOf_16 rfl rfl (by omega) (by omega) ⟨rfl, h1, hQ, rfl⟩
    · cases eo
  · obtain ⟨eo, hQ⟩ := hQ
    rcases ho with ⟨w, rfl⟩ | rfl
    · cases eo
    · cases eo
      refine q_catch (nm := "java/util/NoSuchElementException") [] (0, 9, 12, 20) [] rfl rfl (fun z hz9 => absurd hz9 List.not_mem_nil) (by decide) (by decide) kL_L_20 kK_NoSuchElementException (k := 3) dL_ageOf_12 (by decide) rfl ?_
      change q_W _ _ _ _ _ _ _ _ 13 [.ref 100, .int xa, .ref 223, q_u] [] _
      refine q_iconst (v := 1) dL_ageOf_13 rfl ?_
      exact q_ireturn dL_ageOf_14 rfl rfl (by omega) (by omega) ⟨rfl, h1, hQ, rfl⟩
set_option maxRecDepth 100000 in
theorem e_L_strengthOf {g : q_G} {h : q_H} {d dd mc' ms' : Nat} {xa : Int32} {o : q_O} {B : q_H → Prop} {f : Nat → Int64} {fs : List Value} (hr : h.2 100 = some (.inr (11, fs))) (hB : ∀ h1, B h1 → h1.2 223 = some (.inl (4, 1, .inr (.inl f)))) (ho : (∃ v, o = .inl (some (.int v))) ∨ (o = .inr "java/util/NoSuchElementException")) (sp : q_Spec g mX10_strengthOf dd mc' ms' [.ref 100, .int xa] h (q_chg o B)) (hd : dd + 1 ≤ d) : q_Spec g mL_strengthOf d mc' ms' [.ref 100, .int xa, .ref 223] h (q_chg (.inl (some (.int (z_cd [("java/util/NoSuchElementException", 1)] o)))) (fun h2 => ∃ h1, B h1 ∧ h2 = z_outL o f h1)) := by
  refine q_enterH (by decide +kernel) (by decide) rfl (Nat.le_of_ble_eq_true rfl) (fun hz => ?_)
  change q_W _ _ _ _ _ _ _ _ _ [.ref 100, .int xa, .ref 223, q_u] [] _
  refine q_aload_n (by first | assumption | omega | decide | (rw [q_R0e]; omega)) dL_strengthOf_0 rfl ?_
  refine q_iconst (v := 0) dL_strengthOf_1 rfl ?_
  refine q_aload_n (by first | assumption | omega | decide | (rw [q_R0e]; omega)) dL_strengthOf_2 rfl ?_
  refine q_iload_n dL_strengthOf_3 rfl ?_
  refine q_invV (mc' := mc') (ms' := ms') (d' := dd) (as := [.int xa]) dL_strengthOf_4 kM_X10_strengthOf kL_L_63 kI_X10_strengthOf kS_X10_strengthOf rfl (kC_X10.1) hr rfl rfl (Nat.le_of_ble_eq_true rfl) hd (by decide) (by omega) (by omega) sp (fun v h1 hQ => ?_) (fun E h1 hQ => ?_)
  · obtain ⟨eo, hQ⟩ := hQ
    rcases ho with ⟨w, rfl⟩ | rfl
    · cases eo
      change q_W _ _ _ _ _ _ _ _ 7 [.ref 100, .int xa, .ref 223, q_u] [.int w, .int 0, .ref 223] _
      refine q_i2l dL_strengthOf_7 rfl ?_
      refine q_last (f := f) dL_strengthOf_8 (hB h1 hQ) (vp_in_nI (n := 0) (N := 1) (by decide) (by decide)) ?_
      refine q_goto 15 dL_strengthOf_9 (by decide) ?_
      refine q_iconst (v := 0) dL_strengthOf_15 rfl ?_
      exact q_ireturn dL_strengthOf_16 rfl rfl (by omega) (by omega) ⟨rfl, h1, hQ, rfl⟩
    · cases eo
  · obtain ⟨eo, hQ⟩ := hQ
    rcases ho with ⟨w, rfl⟩ | rfl
    · cases eo
    · cases eo
      refine q_catch (nm := "java/util/NoSuchElementException") [] (0, 9, 12, 20) [] rfl rfl (fun z hz9 => absurd hz9 List.not_mem_nil) (by decide) (by decide) kL_L_20 kK_NoSuchElementException (k := 3) dL_strengthOf_12 (by decide) rfl ?_
      change q_W _ _ _ _ _ _ _ _ 13 [.ref 100, .int xa, .ref 223, q_u] [] _
      refine q_iconst (v := 1) dL_strengthOf_13 rfl ?_
      exact q_ireturn dL_strengthOf_14 rfl rfl (by omega) (by omega) ⟨rfl, h1, hQ, rfl⟩
set_option maxRecDepth 100000 in
theorem e_L_hasAttack {g : q_G} {h : q_H} {d dd mc' ms' : Nat} {xa : Int32} {xc : Int32} {o : q_O} {B : q_H → Prop} {f : Nat → Int64} {fs : List Value} (hr : h.2 100 = some (.inr (11, fs))) (hB : ∀ h1, B h1 → h1.2 223 = some (.inl (4, 1, .inr (.inl f)))) (ho : (∃ v, o = .inl (some (.int (z_b v)))) ∨ (o = .inr "java/util/NoSuchElementException")) (sp : q_Spec g mX10_hasAttack dd mc' ms' [.ref 100, .int xa, .int xc] h (q_chg o B)) (hd : dd + 1 ≤ d) : q_Spec g mL_hasAttack d mc' ms' [.ref 100, .int xa, .int xc, .ref 223] h (q_chg (.inl (some (.int (z_cd [("java/util/NoSuchElementException", 1)] o)))) (fun h2 => ∃ h1, B h1 ∧ h2 = z_outL o f h1)) := by
  refine q_enterH (by decide +kernel) (by decide) rfl (Nat.le_of_ble_eq_true rfl) (fun hz => ?_)
  change q_W _ _ _ _ _ _ _ _ _ [.ref 100, .int xa, .int xc, .ref 223, q_u] [] _
  refine q_aload_n (by first | assumption | omega | decide | (rw [q_R0e]; omega)) dL_hasAttack_0 rfl ?_
  refine q_iconst (v := 0) dL_hasAttack_1 rfl ?_
  refine q_aload_n (by first | assumption | omega | decide | (rw [q_R0e]; omega)) dL_hasAttack_2 rfl ?_
  refine q_iload_n dL_hasAttack_3 rfl ?_
  refine q_iload_n dL_hasAttack_4 rfl ?_
  refine q_invV (mc' := mc') (ms' := ms') (d' := dd) (as := [.int xa, .int xc]) dL_hasAttack_5 kM_X10_hasAttack kL_L_66 kI_X10_hasAttack kS_X10_hasAttack rfl (kC_X10.1) hr rfl rfl (Nat.le_of_ble_eq_true rfl) hd (by decide) (by omega) (by omega) sp (fun v h1 hQ => ?_) (fun E h1 hQ => ?_)
  · obtain ⟨eo, hQ⟩ := hQ
    rcases ho with ⟨w, rfl⟩ | rfl
    · cases eo
      change q_W _ _ _ _ _ _ _ _ 8 [.ref 100, .int xa, .int xc, .ref 223, q_u] [.int (z_b w), .int 0, .ref 223] _
      cases w with
      | false =>
        refine q_if_eq 15 dL_hasAttack_8 (by decide) (fun b => ?_) (fun b => absurd rfl b)
        refine q_lconst (v := 0) dL_hasAttack_15 (by decide) ?_
        refine q_last (f := f) dL_hasAttack_16 (hB h1 hQ) (vp_in_nI (n := 0) (N := 1) (by decide) (by decide)) ?_
        refine q_goto 24 dL_hasAttack_17 (by decide) ?_
        refine q_iconst (v := 0) dL_hasAttack_24 rfl ?_
        exact q_ireturn dL_hasAttack_25 rfl rfl (by omega) (by omega) ⟨rfl, h1, hQ, rfl⟩
      | true =>
        refine q_if_eq 15 dL_hasAttack_8 (by decide) (fun b => absurd b (by decide)) (fun b => ?_)
        refine q_lconst (v := 1) dL_hasAttack_11 (by decide) ?_
        refine q_goto 16 dL_hasAttack_12 (by decide) ?_
        refine q_last (f := f) dL_hasAttack_16 (hB h1 hQ) (vp_in_nI (n := 0) (N := 1) (by decide) (by decide)) ?_
        refine q_goto 24 dL_hasAttack_17 (by decide) ?_
        refine q_iconst (v := 0) dL_hasAttack_24 rfl ?_
        exact q_ireturn dL_hasAttack_25 rfl rfl (by omega) (by omega) ⟨rfl, h1, hQ, rfl⟩
    · cases eo
  · obtain ⟨eo, hQ⟩ := hQ
    rcases ho with ⟨w, rfl⟩ | rfl
    · cases eo
    · cases eo
      refine q_catch4 (nm := "java/util/NoSuchElementException") [] (0, 17, 20, 20) [] rfl rfl (fun z hz9 => absurd hz9 List.not_mem_nil) (by decide) (by decide) kL_L_20 kK_NoSuchElementException (k := 4) dL_hasAttack_20 (by decide) rfl ?_
      change q_W _ _ _ _ _ _ _ _ 22 [.ref 100, .int xa, .int xc, .ref 223, q_u] [] _
      refine q_iconst (v := 1) dL_hasAttack_22 rfl ?_
      exact q_ireturn dL_hasAttack_23 rfl rfl (by omega) (by omega) ⟨rfl, h1, hQ, rfl⟩
set_option maxRecDepth 100000 in
theorem e_L_isSuccessful {g : q_G} {h : q_H} {d dd mc' ms' : Nat} {xa : Int32} {xc : Int32} {o : q_O} {B : q_H → Prop} {f : Nat → Int64} {fs : List Value} (hr : h.2 100 = some (.inr (11, fs))) (hB : ∀ h1, B h1 → h1.2 223 = some (.inl (4, 1, .inr (.inl f)))) (ho : (∃ v, o = .inl (some (.int (z_b v)))) ∨ (o = .inr "java/util/NoSuchElementException")) (sp : q_Spec g mX10_isSuccessful dd mc' ms' [.ref 100, .int xa, .int xc] h (q_chg o B)) (hd : dd + 1 ≤ d) : q_Spec g mL_isSuccessful d mc' ms' [.ref 100, .int xa, .int xc, .ref 223] h (q_chg (.inl (some (.int (z_cd [("java/util/NoSuchElementException", 1)] o)))) (fun h2 => ∃ h1, B h1 ∧ h2 = z_outL o f h1)) := by
  refine q_enterH (by decide +kernel) (by decide) rfl (Nat.le_of_ble_eq_true rfl) (fun hz => ?_)
  change q_W _ _ _ _ _ _ _ _ _ [.ref 100, .int xa, .int xc, .ref 223, q_u] [] _
  refine q_aload_n (by first | assumption | omega | decide | (rw [q_R0e]; omega)) dL_isSuccessful_0 rfl ?_
  refine q_iconst (v := 0) dL_isSuccessful_1 rfl ?_
  refine q_aload_n (by first | assumption | omega | decide | (rw [q_R0e]; omega)) dL_isSuccessful_2 rfl ?_
  refine q_iload_n dL_isSuccessful_3 rfl ?_
  refine q_iload_n dL_isSuccessful_4 rfl ?_
  refine q_invV (mc' := mc') (ms' := ms') (d' := dd) (as := [.int xa, .int xc]) dL_isSuccessful_5 kM_X10_isSuccessful kL_L_70 kI_X10_isSuccessful kS_X10_isSuccessful rfl (kC_X10.1) hr rfl rfl (Nat.le_of_ble_eq_true rfl) hd (by decide) (by omega) (by omega) sp (fun v h1 hQ => ?_) (fun E h1 hQ => ?_)
  · obtain ⟨eo, hQ⟩ := hQ
    rcases ho with ⟨w, rfl⟩ | rfl
    · cases eo
      change q_W _ _ _ _ _ _ _ _ 8 [.ref 100, .int xa, .int xc, .ref 223, q_u] [.int (z_b w), .int 0, .ref 223] _
      cases w with
      | false =>
        refine q_if_eq 15 dL_isSuccessful_8 (by decide) (fun b => ?_) (fun b => absurd rfl b)
        refine q_lconst (v := 0) dL_isSuccessful_15 (by decide) ?_
        refine q_last (f := f) dL_isSuccessful_16 (hB h1 hQ) (vp_in_nI (n := 0) (N := 1) (by decide) (by decide)) ?_
        refine q_goto 24 dL_isSuccessful_17 (by decide) ?_
        refine q_iconst (v := 0) dL_isSuccessful_24 rfl ?_
        exact q_ireturn dL_isSuccessful_25 rfl rfl (by omega) (by omega) ⟨rfl, h1, hQ, rfl⟩
      | true =>
        refine q_if_eq 15 dL_isSuccessful_8 (by decide) (fun b => absurd b (by decide)) (fun b => ?_)
        refine q_lconst (v := 1) dL_isSuccessful_11 (by decide) ?_
        refine q_goto 16 dL_isSuccessful_12 (by decide) ?_
        refine q_last (f := f) dL_isSuccessful_16 (hB h1 hQ) (vp_in_nI (n := 0) (N := 1) (by decide) (by decide)) ?_
        refine q_goto 24 dL_isSuccessful_17 (by decide) ?_
        refine q_iconst (v := 0) dL_isSuccessful_24 rfl ?_
        exact q_ireturn dL_isSuccessful_25 rfl rfl (by omega) (by omega) ⟨rfl, h1, hQ, rfl⟩
    · cases eo
  · obtain ⟨eo, hQ⟩ := hQ
    rcases ho with ⟨w, rfl⟩ | rfl
    · cases eo
    · cases eo
      refine q_catch4 (nm := "java/util/NoSuchElementException") [] (0, 17, 20, 20) [] rfl rfl (fun z hz9 => absurd hz9 List.not_mem_nil) (by decide) (by decide) kL_L_20 kK_NoSuchElementException (k := 4) dL_isSuccessful_20 (by decide) rfl ?_
      change q_W _ _ _ _ _ _ _ _ 22 [.ref 100, .int xa, .int xc, .ref 223, q_u] [] _
      refine q_iconst (v := 1) dL_isSuccessful_22 rfl ?_
      exact q_ireturn dL_isSuccessful_23 rfl rfl (by omega) (by omega) ⟨rfl, h1, hQ, rfl⟩
set_option maxRecDepth 100000 in
theorem e_L_attackerCount {g : q_G} {h : q_H} {d dd mc' ms' : Nat} {xa : Int32} {o : q_O} {B : q_H → Prop} {f : Nat → Int64} {fs : List Value} (hr : h.2 100 = some (.inr (11, fs))) (hB : ∀ h1, B h1 → h1.2 223 = some (.inl (4, 1, .inr (.inl f)))) (ho : (∃ v, o = .inl (some (.int v))) ∨ (o = .inr "java/util/NoSuchElementException")) (sp : q_Spec g mX10_attackerCount dd mc' ms' [.ref 100, .int xa] h (q_chg o B)) (hd : dd + 1 ≤ d) : q_Spec g mL_attackerCount d mc' ms' [.ref 100, .int xa, .ref 223] h (q_chg (.inl (some (.int (z_cd [("java/util/NoSuchElementException", 1)] o)))) (fun h2 => ∃ h1, B h1 ∧ h2 = z_outL o f h1)) := by
  refine q_enterH (by decide +kernel) (by decide) rfl (Nat.le_of_ble_eq_true rfl) (fun hz => ?_)
  change q_W _ _ _ _ _ _ _ _ _ [.ref 100, .int xa, .ref 223, q_u] [] _
  refine q_aload_n (by first | assumption | omega | decide | (rw [q_R0e]; omega)) dL_attackerCount_0 rfl ?_
  refine q_iconst (v := 0) dL_attackerCount_1 rfl ?_
  refine q_aload_n (by first | assumption | omega | decide | (rw [q_R0e]; omega)) dL_attackerCount_2 rfl ?_
  refine q_iload_n dL_attackerCount_3 rfl ?_
  refine q_invV (mc' := mc') (ms' := ms') (d' := dd) (as := [.int xa]) dL_attackerCount_4 kM_X10_attackerCount kL_L_73 kI_X10_attackerCount kS_X10_attackerCount rfl (kC_X10.1) hr rfl rfl (Nat.le_of_ble_eq_true rfl) hd (by decide) (by omega) (by omega) sp (fun v h1 hQ => ?_) (fun E h1 hQ => ?_)
  · obtain ⟨eo, hQ⟩ := hQ
    rcases ho with ⟨w, rfl⟩ | rfl
    · cases eo
      change q_W _ _ _ _ _ _ _ _ 7 [.ref 100, .int xa, .ref 223, q_u] [.int w, .int 0, .ref 223] _
      refine q_i2l dL_attackerCount_7 rfl ?_
      refine q_last (f := f) dL_attackerCount_8 (hB h1 hQ) (vp_in_nI (n := 0) (N := 1) (by decide) (by decide)) ?_
      refine q_goto 15 dL_attackerCount_9 (by decide) ?_
      refine q_iconst (v := 0) dL_attackerCount_15 rfl ?_
      exact q_ireturn dL_attackerCount_16 rfl rfl (by omega) (by omega) ⟨rfl, h1, hQ, rfl⟩
    · cases eo
  · obtain ⟨eo, hQ⟩ := hQ
    rcases ho with ⟨w, rfl⟩ | rfl
    · cases eo
    · cases eo
      refine q_catch (nm := "java/util/NoSuchElementException") [] (0, 9, 12, 20) [] rfl rfl (fun z hz9 => absurd hz9 List.not_mem_nil) (by decide) (by decide) kL_L_20 kK_NoSuchElementException (k := 3) dL_attackerCount_12 (by decide) rfl ?_
      change q_W _ _ _ _ _ _ _ _ 13 [.ref 100, .int xa, .ref 223, q_u] [] _
      refine q_iconst (v := 1) dL_attackerCount_13 rfl ?_
      exact q_ireturn dL_attackerCount_14 rfl rfl (by omega) (by omega) ⟨rfl, h1, hQ, rfl⟩
set_option maxRecDepth 100000 in
theorem e_L_attackerAt {g : q_G} {h : q_H} {d dd mc' ms' : Nat} {xa : Int32} {xc : Int32} {o : q_O} {B : q_H → Prop} {f : Nat → Int64} {fs : List Value} (hr : h.2 100 = some (.inr (11, fs))) (hB : ∀ h1, B h1 → h1.2 223 = some (.inl (4, 1, .inr (.inl f)))) (ho : (∃ v, o = .inl (some (.int v))) ∨ (o = .inr "java/util/NoSuchElementException") ∨ (o = .inr "java/lang/IndexOutOfBoundsException")) (sp : q_Spec g mX10_attackerAt dd mc' ms' [.ref 100, .int xa, .int xc] h (q_chg o B)) (hd : dd + 1 ≤ d) : q_Spec g mL_attackerAt d mc' ms' [.ref 100, .int xa, .int xc, .ref 223] h (q_chg (.inl (some (.int (z_cd [("java/util/NoSuchElementException", 1), ("java/lang/IndexOutOfBoundsException", 2)] o)))) (fun h2 => ∃ h1, B h1 ∧ h2 = z_outL o f h1)) := by
  refine q_enterH (by decide +kernel) (by decide) rfl (Nat.le_of_ble_eq_true rfl) (fun hz => ?_)
  change q_W _ _ _ _ _ _ _ _ _ [.ref 100, .int xa, .int xc, .ref 223, q_u] [] _
  refine q_aload_n (by first | assumption | omega | decide | (rw [q_R0e]; omega)) dL_attackerAt_0 rfl ?_
  refine q_iconst (v := 0) dL_attackerAt_1 rfl ?_
  refine q_aload_n (by first | assumption | omega | decide | (rw [q_R0e]; omega)) dL_attackerAt_2 rfl ?_
  refine q_iload_n dL_attackerAt_3 rfl ?_
  refine q_iload_n dL_attackerAt_4 rfl ?_
  refine q_invV (mc' := mc') (ms' := ms') (d' := dd) (as := [.int xa, .int xc]) dL_attackerAt_5 kM_X10_attackerAt kL_L_76 kI_X10_attackerAt kS_X10_attackerAt rfl (kC_X10.1) hr rfl rfl (Nat.le_of_ble_eq_true rfl) hd (by decide) (by omega) (by omega) sp (fun v h1 hQ => ?_) (fun E h1 hQ => ?_)
  · obtain ⟨eo, hQ⟩ := hQ
    rcases ho with ⟨w, rfl⟩ | rfl | rfl
    · cases eo
      change q_W _ _ _ _ _ _ _ _ 8 [.ref 100, .int xa, .int xc, .ref 223, q_u] [.int w, .int 0, .ref 223] _
      refine q_i2l dL_attackerAt_8 rfl ?_
      refine q_last (f := f) dL_attackerAt_9 (hB h1 hQ) (vp_in_nI (n := 0) (N := 1) (by decide) (by decide)) ?_
      refine q_goto 21 dL_attackerAt_10 (by decide) ?_
      refine q_iconst (v := 0) dL_attackerAt_21 rfl ?_
      exact q_ireturn dL_attackerAt_22 rfl rfl (by omega) (by omega) ⟨rfl, h1, hQ, rfl⟩
    · cases eo
    · cases eo
  · obtain ⟨eo, hQ⟩ := hQ
    rcases ho with ⟨w, rfl⟩ | rfl | rfl
    · cases eo
    · cases eo
      refine q_catch4 (nm := "java/util/NoSuchElementException") [] (0, 10, 13, 20) [(0, 10, 17, 55)] rfl rfl (fun z hz9 => absurd hz9 List.not_mem_nil) (by decide) (by decide) kL_L_20 kK_NoSuchElementException (k := 4) dL_attackerAt_13 (by decide) rfl ?_
      change q_W _ _ _ _ _ _ _ _ 15 [.ref 100, .int xa, .int xc, .ref 223, q_u] [] _
      refine q_iconst (v := 1) dL_attackerAt_15 rfl ?_
      exact q_ireturn dL_attackerAt_16 rfl rfl (by omega) (by omega) ⟨rfl, h1, hQ, rfl⟩
    · cases eo
      refine q_catch4 (nm := "java/lang/IndexOutOfBoundsException") [(0, 10, 13, 20)] (0, 10, 17, 55) [] rfl rfl (fun z hz9 => by
        simp only [List.mem_cons, List.not_mem_nil, or_false] at hz9
        rcases hz9 with rfl
        · exact Or.inr ⟨by decide, "java/util/NoSuchElementException", kL_L_20, by simp [q_nc]⟩) (by decide) (by decide) kL_L_55 kK_IndexOutOfBoundsException (k := 4) dL_attackerAt_17 (by decide) rfl ?_
      change q_W _ _ _ _ _ _ _ _ 19 [.ref 100, .int xa, .int xc, .ref 223, q_u] [] _
      refine q_iconst (v := 2) dL_attackerAt_19 rfl ?_
      exact q_ireturn dL_attackerAt_20 rfl rfl (by omega) (by omega) ⟨rfl, h1, hQ, rfl⟩
set_option maxRecDepth 100000 in
theorem e_L_status {g : q_G} {h : q_H} {d dd mc' ms' : Nat} {xa : Int32} {o : q_O} {B : q_H → Prop} {f : Nat → Int64} {fs : List Value} (hr : h.2 100 = some (.inr (11, fs))) (hB : ∀ h1, B h1 → h1.2 223 = some (.inl (4, 1, .inr (.inl f)))) (ho : (∃ v, o = .inl (some (.int v))) ∨ (o = .inr "java/util/NoSuchElementException")) (sp : q_Spec g mX10_status dd mc' ms' [.ref 100, .int xa] h (q_chg o B)) (hd : dd + 1 ≤ d) : q_Spec g mL_status d mc' ms' [.ref 100, .int xa, .ref 223] h (q_chg (.inl (some (.int (z_cd [("java/util/NoSuchElementException", 1)] o)))) (fun h2 => ∃ h1, B h1 ∧ h2 = z_outL o f h1)) := by
  refine q_enterH (by decide +kernel) (by decide) rfl (Nat.le_of_ble_eq_true rfl) (fun hz => ?_)
  change q_W _ _ _ _ _ _ _ _ _ [.ref 100, .int xa, .ref 223, q_u] [] _
  refine q_aload_n (by first | assumption | omega | decide | (rw [q_R0e]; omega)) dL_status_0 rfl ?_
  refine q_iconst (v := 0) dL_status_1 rfl ?_
  refine q_aload_n (by first | assumption | omega | decide | (rw [q_R0e]; omega)) dL_status_2 rfl ?_
  refine q_iload_n dL_status_3 rfl ?_
  refine q_invV (mc' := mc') (ms' := ms') (d' := dd) (as := [.int xa]) dL_status_4 kM_X10_status kL_L_79 kI_X10_status kS_X10_status rfl (kC_X10.1) hr rfl rfl (Nat.le_of_ble_eq_true rfl) hd (by decide) (by omega) (by omega) sp (fun v h1 hQ => ?_) (fun E h1 hQ => ?_)
  · obtain ⟨eo, hQ⟩ := hQ
    rcases ho with ⟨w, rfl⟩ | rfl
    · cases eo
      change q_W _ _ _ _ _ _ _ _ 7 [.ref 100, .int xa, .ref 223, q_u] [.int w, .int 0, .ref 223] _
      refine q_i2l dL_status_7 rfl ?_
      refine q_last (f := f) dL_status_8 (hB h1 hQ) (vp_in_nI (n := 0) (N := 1) (by decide) (by decide)) ?_
      refine q_goto 15 dL_status_9 (by decide) ?_
      refine q_iconst (v := 0) dL_status_15 rfl ?_
      exact q_ireturn dL_status_16 rfl rfl (by omega) (by omega) ⟨rfl, h1, hQ, rfl⟩
    · cases eo
  · obtain ⟨eo, hQ⟩ := hQ
    rcases ho with ⟨w, rfl⟩ | rfl
    · cases eo
    · cases eo
      refine q_catch (nm := "java/util/NoSuchElementException") [] (0, 9, 12, 20) [] rfl rfl (fun z hz9 => absurd hz9 List.not_mem_nil) (by decide) (by decide) kL_L_20 kK_NoSuchElementException (k := 3) dL_status_12 (by decide) rfl ?_
      change q_W _ _ _ _ _ _ _ _ 13 [.ref 100, .int xa, .ref 223, q_u] [] _
      refine q_iconst (v := 1) dL_status_13 rfl ?_
      exact q_ireturn dL_status_14 rfl rfl (by omega) (by omega) ⟨rfl, h1, hQ, rfl⟩
set_option maxRecDepth 100000 in
theorem e_L_roundOf {g : q_G} {h : q_H} {d dd mc' ms' : Nat} {xa : Int32} {o : q_O} {B : q_H → Prop} {f : Nat → Int64} {fs : List Value} (hr : h.2 100 = some (.inr (11, fs))) (hB : ∀ h1, B h1 → h1.2 223 = some (.inl (4, 1, .inr (.inl f)))) (ho : (∃ v, o = .inl (some (.int v))) ∨ (o = .inr "java/util/NoSuchElementException")) (sp : q_Spec g mX10_roundOf dd mc' ms' [.ref 100, .int xa] h (q_chg o B)) (hd : dd + 1 ≤ d) : q_Spec g mL_roundOf d mc' ms' [.ref 100, .int xa, .ref 223] h (q_chg (.inl (some (.int (z_cd [("java/util/NoSuchElementException", 1)] o)))) (fun h2 => ∃ h1, B h1 ∧ h2 = z_outL o f h1)) := by
  refine q_enterH (by decide +kernel) (by decide) rfl (Nat.le_of_ble_eq_true rfl) (fun hz => ?_)
  change q_W _ _ _ _ _ _ _ _ _ [.ref 100, .int xa, .ref 223, q_u] [] _
  refine q_aload_n (by first | assumption | omega | decide | (rw [q_R0e]; omega)) dL_roundOf_0 rfl ?_
  refine q_iconst (v := 0) dL_roundOf_1 rfl ?_
  refine q_aload_n (by first | assumption | omega | decide | (rw [q_R0e]; omega)) dL_roundOf_2 rfl ?_
  refine q_iload_n dL_roundOf_3 rfl ?_
  refine q_invV (mc' := mc') (ms' := ms') (d' := dd) (as := [.int xa]) dL_roundOf_4 kM_X10_roundOf kL_L_83 kI_X10_roundOf kS_X10_roundOf rfl (kC_X10.1) hr rfl rfl (Nat.le_of_ble_eq_true rfl) hd (by decide) (by omega) (by omega) sp (fun v h1 hQ => ?_) (fun E h1 hQ => ?_)
  · obtain ⟨eo, hQ⟩ := hQ
    rcases ho with ⟨w, rfl⟩ | rfl
    · cases eo
      change q_W _ _ _ _ _ _ _ _ 7 [.ref 100, .int xa, .ref 223, q_u] [.int w, .int 0, .ref 223] _
      refine q_i2l dL_roundOf_7 rfl ?_
      refine q_last (f := f) dL_roundOf_8 (hB h1 hQ) (vp_in_nI (n := 0) (N := 1) (by decide) (by decide)) ?_
      refine q_goto 15 dL_roundOf_9 (by decide) ?_
      refine q_iconst (v := 0) dL_roundOf_15 rfl ?_
      exact q_ireturn dL_roundOf_16 rfl rfl (by omega) (by omega) ⟨rfl, h1, hQ, rfl⟩
    · cases eo
  · obtain ⟨eo, hQ⟩ := hQ
    rcases ho with ⟨w, rfl⟩ | rfl
    · cases eo
    · cases eo
      refine q_catch (nm := "java/util/NoSuchElementException") [] (0, 9, 12, 20) [] rfl rfl (fun z hz9 => absurd hz9 List.not_mem_nil) (by decide) (by decide) kL_L_20 kK_NoSuchElementException (k := 3) dL_roundOf_12 (by decide) rfl ?_
      change q_W _ _ _ _ _ _ _ _ 13 [.ref 100, .int xa, .ref 223, q_u] [] _
      refine q_iconst (v := 1) dL_roundOf_13 rfl ?_
      exact q_ireturn dL_roundOf_14 rfl rfl (by omega) (by omega) ⟨rfl, h1, hQ, rfl⟩
set_option maxRecDepth 100000 in
theorem e_L_isAcceptedByGame {g : q_G} {h : q_H} {d dd mc' ms' : Nat} {xa : Int32} {o : q_O} {B : q_H → Prop} {f : Nat → Int64} {fs : List Value} (hr : h.2 100 = some (.inr (11, fs))) (hB : ∀ h1, B h1 → h1.2 223 = some (.inl (4, 1, .inr (.inl f)))) (ho : (∃ v, o = .inl (some (.int (z_b v)))) ∨ (o = .inr "java/util/NoSuchElementException")) (sp : q_Spec g mX10_isAcceptedByGame dd mc' ms' [.ref 100, .int xa] h (q_chg o B)) (hd : dd + 1 ≤ d) : q_Spec g mL_isAcceptedByGame d mc' ms' [.ref 100, .int xa, .ref 223] h (q_chg (.inl (some (.int (z_cd [("java/util/NoSuchElementException", 1)] o)))) (fun h2 => ∃ h1, B h1 ∧ h2 = z_outL o f h1)) := by
  refine q_enterH (by decide +kernel) (by decide) rfl (Nat.le_of_ble_eq_true rfl) (fun hz => ?_)
  change q_W _ _ _ _ _ _ _ _ _ [.ref 100, .int xa, .ref 223, q_u] [] _
  refine q_aload_n (by first | assumption | omega | decide | (rw [q_R0e]; omega)) dL_isAcceptedByGame_0 rfl ?_
  refine q_iconst (v := 0) dL_isAcceptedByGame_1 rfl ?_
  refine q_aload_n (by first | assumption | omega | decide | (rw [q_R0e]; omega)) dL_isAcceptedByGame_2 rfl ?_
  refine q_iload_n dL_isAcceptedByGame_3 rfl ?_
  refine q_invV (mc' := mc') (ms' := ms') (d' := dd) (as := [.int xa]) dL_isAcceptedByGame_4 kM_X10_isAcceptedByGame kL_L_86 kI_X10_isAcceptedByGame kS_X10_isAcceptedByGame rfl (kC_X10.1) hr rfl rfl (Nat.le_of_ble_eq_true rfl) hd (by decide) (by omega) (by omega) sp (fun v h1 hQ => ?_) (fun E h1 hQ => ?_)
  · obtain ⟨eo, hQ⟩ := hQ
    rcases ho with ⟨w, rfl⟩ | rfl
    · cases eo
      change q_W _ _ _ _ _ _ _ _ 7 [.ref 100, .int xa, .ref 223, q_u] [.int (z_b w), .int 0, .ref 223] _
      cases w with
      | false =>
        refine q_if_eq 14 dL_isAcceptedByGame_7 (by decide) (fun b => ?_) (fun b => absurd rfl b)
        refine q_lconst (v := 0) dL_isAcceptedByGame_14 (by decide) ?_
        refine q_last (f := f) dL_isAcceptedByGame_15 (hB h1 hQ) (vp_in_nI (n := 0) (N := 1) (by decide) (by decide)) ?_
        refine q_goto 22 dL_isAcceptedByGame_16 (by decide) ?_
        refine q_iconst (v := 0) dL_isAcceptedByGame_22 rfl ?_
        exact q_ireturn dL_isAcceptedByGame_23 rfl rfl (by omega) (by omega) ⟨rfl, h1, hQ, rfl⟩
      | true =>
        refine q_if_eq 14 dL_isAcceptedByGame_7 (by decide) (fun b => absurd b (by decide)) (fun b => ?_)
        refine q_lconst (v := 1) dL_isAcceptedByGame_10 (by decide) ?_
        refine q_goto 15 dL_isAcceptedByGame_11 (by decide) ?_
        refine q_last (f := f) dL_isAcceptedByGame_15 (hB h1 hQ) (vp_in_nI (n := 0) (N := 1) (by decide) (by decide)) ?_
        refine q_goto 22 dL_isAcceptedByGame_16 (by decide) ?_
        refine q_iconst (v := 0) dL_isAcceptedByGame_22 rfl ?_
        exact q_ireturn dL_isAcceptedByGame_23 rfl rfl (by omega) (by omega) ⟨rfl, h1, hQ, rfl⟩
    · cases eo
  · obtain ⟨eo, hQ⟩ := hQ
    rcases ho with ⟨w, rfl⟩ | rfl
    · cases eo
    · cases eo
      refine q_catch (nm := "java/util/NoSuchElementException") [] (0, 16, 19, 20) [] rfl rfl (fun z hz9 => absurd hz9 List.not_mem_nil) (by decide) (by decide) kL_L_20 kK_NoSuchElementException (k := 3) dL_isAcceptedByGame_19 (by decide) rfl ?_
      change q_W _ _ _ _ _ _ _ _ 20 [.ref 100, .int xa, .ref 223, q_u] [] _
      refine q_iconst (v := 1) dL_isAcceptedByGame_20 rfl ?_
      exact q_ireturn dL_isAcceptedByGame_21 rfl rfl (by omega) (by omega) ⟨rfl, h1, hQ, rfl⟩
set_option maxRecDepth 100000 in
theorem e_L_canOpponentWin {g : q_G} {h : q_H} {d dd mc' ms' : Nat} {xa : Int32} {o : q_O} {B : q_H → Prop} {f : Nat → Int64} {fs : List Value} (hr : h.2 100 = some (.inr (11, fs))) (hB : ∀ h1, B h1 → h1.2 223 = some (.inl (4, 1, .inr (.inl f)))) (ho : (∃ v, o = .inl (some (.int (z_b v)))) ∨ (o = .inr "java/util/NoSuchElementException")) (sp : q_Spec g mX10_canOpponentWin dd mc' ms' [.ref 100, .int xa] h (q_chg o B)) (hd : dd + 1 ≤ d) : q_Spec g mL_canOpponentWin d mc' ms' [.ref 100, .int xa, .ref 223] h (q_chg (.inl (some (.int (z_cd [("java/util/NoSuchElementException", 1)] o)))) (fun h2 => ∃ h1, B h1 ∧ h2 = z_outL o f h1)) := by
  refine q_enterH (by decide +kernel) (by decide) rfl (Nat.le_of_ble_eq_true rfl) (fun hz => ?_)
  change q_W _ _ _ _ _ _ _ _ _ [.ref 100, .int xa, .ref 223, q_u] [] _
  refine q_aload_n (by first | assumption | omega | decide | (rw [q_R0e]; omega)) dL_canOpponentWin_0 rfl ?_
  refine q_iconst (v := 0) dL_canOpponentWin_1 rfl ?_
  refine q_aload_n (by first | assumption | omega | decide | (rw [q_R0e]; omega)) dL_canOpponentWin_2 rfl ?_
  refine q_iload_n dL_canOpponentWin_3 rfl ?_
  refine q_invV (mc' := mc') (ms' := ms') (d' := dd) (as := [.int xa]) dL_canOpponentWin_4 kM_X10_canOpponentWin kL_L_90 kI_X10_canOpponentWin kS_X10_canOpponentWin rfl (kC_X10.1) hr rfl rfl (Nat.le_of_ble_eq_true rfl) hd (by decide) (by omega) (by omega) sp (fun v h1 hQ => ?_) (fun E h1 hQ => ?_)
  · obtain ⟨eo, hQ⟩ := hQ
    rcases ho with ⟨w, rfl⟩ | rfl
    · cases eo
      change q_W _ _ _ _ _ _ _ _ 7 [.ref 100, .int xa, .ref 223, q_u] [.int (z_b w), .int 0, .ref 223] _
      cases w with
      | false =>
        refine q_if_eq 14 dL_canOpponentWin_7 (by decide) (fun b => ?_) (fun b => absurd rfl b)
        refine q_lconst (v := 0) dL_canOpponentWin_14 (by decide) ?_
        refine q_last (f := f) dL_canOpponentWin_15 (hB h1 hQ) (vp_in_nI (n := 0) (N := 1) (by decide) (by decide)) ?_
        refine q_goto 22 dL_canOpponentWin_16 (by decide) ?_
        refine q_iconst (v := 0) dL_canOpponentWin_22 rfl ?_
        exact q_ireturn dL_canOpponentWin_23 rfl rfl (by omega) (by omega) ⟨rfl, h1, hQ, rfl⟩
      | true =>
        refine q_if_eq 14 dL_canOpponentWin_7 (by decide) (fun b => absurd b (by decide)) (fun b => ?_)
        refine q_lconst (v := 1) dL_canOpponentWin_10 (by decide) ?_
        refine q_goto 15 dL_canOpponentWin_11 (by decide) ?_
        refine q_last (f := f) dL_canOpponentWin_15 (hB h1 hQ) (vp_in_nI (n := 0) (N := 1) (by decide) (by decide)) ?_
        refine q_goto 22 dL_canOpponentWin_16 (by decide) ?_
        refine q_iconst (v := 0) dL_canOpponentWin_22 rfl ?_
        exact q_ireturn dL_canOpponentWin_23 rfl rfl (by omega) (by omega) ⟨rfl, h1, hQ, rfl⟩
    · cases eo
  · obtain ⟨eo, hQ⟩ := hQ
    rcases ho with ⟨w, rfl⟩ | rfl
    · cases eo
    · cases eo
      refine q_catch (nm := "java/util/NoSuchElementException") [] (0, 16, 19, 20) [] rfl rfl (fun z hz9 => absurd hz9 List.not_mem_nil) (by decide) (by decide) kL_L_20 kK_NoSuchElementException (k := 3) dL_canOpponentWin_19 (by decide) rfl ?_
      change q_W _ _ _ _ _ _ _ _ 20 [.ref 100, .int xa, .ref 223, q_u] [] _
      refine q_iconst (v := 1) dL_canOpponentWin_20 rfl ?_
      exact q_ireturn dL_canOpponentWin_21 rfl rfl (by omega) (by omega) ⟨rfl, h1, hQ, rfl⟩
set_option maxRecDepth 100000 in
theorem e_L_isCredible {g : q_G} {h : q_H} {d dd mc' ms' : Nat} {xa : Int32} {o : q_O} {B : q_H → Prop} {f : Nat → Int64} {fs : List Value} (hr : h.2 100 = some (.inr (11, fs))) (hB : ∀ h1, B h1 → h1.2 223 = some (.inl (4, 1, .inr (.inl f)))) (ho : (∃ v, o = .inl (some (.int (z_b v)))) ∨ (o = .inr "java/util/NoSuchElementException")) (sp : q_Spec g mX10_isCredible dd mc' ms' [.ref 100, .int xa] h (q_chg o B)) (hd : dd + 1 ≤ d) : q_Spec g mL_isCredible d mc' ms' [.ref 100, .int xa, .ref 223] h (q_chg (.inl (some (.int (z_cd [("java/util/NoSuchElementException", 1)] o)))) (fun h2 => ∃ h1, B h1 ∧ h2 = z_outL o f h1)) := by
  refine q_enterH (by decide +kernel) (by decide) rfl (Nat.le_of_ble_eq_true rfl) (fun hz => ?_)
  change q_W _ _ _ _ _ _ _ _ _ [.ref 100, .int xa, .ref 223, q_u] [] _
  refine q_aload_n (by first | assumption | omega | decide | (rw [q_R0e]; omega)) dL_isCredible_0 rfl ?_
  refine q_iconst (v := 0) dL_isCredible_1 rfl ?_
  refine q_aload_n (by first | assumption | omega | decide | (rw [q_R0e]; omega)) dL_isCredible_2 rfl ?_
  refine q_iload_n dL_isCredible_3 rfl ?_
  refine q_invV (mc' := mc') (ms' := ms') (d' := dd) (as := [.int xa]) dL_isCredible_4 kM_X10_isCredible kL_L_93 kI_X10_isCredible kS_X10_isCredible rfl (kC_X10.1) hr rfl rfl (Nat.le_of_ble_eq_true rfl) hd (by decide) (by omega) (by omega) sp (fun v h1 hQ => ?_) (fun E h1 hQ => ?_)
  · obtain ⟨eo, hQ⟩ := hQ
    rcases ho with ⟨w, rfl⟩ | rfl
    · cases eo
      change q_W _ _ _ _ _ _ _ _ 7 [.ref 100, .int xa, .ref 223, q_u] [.int (z_b w), .int 0, .ref 223] _
      cases w with
      | false =>
        refine q_if_eq 14 dL_isCredible_7 (by decide) (fun b => ?_) (fun b => absurd rfl b)
        refine q_lconst (v := 0) dL_isCredible_14 (by decide) ?_
        refine q_last (f := f) dL_isCredible_15 (hB h1 hQ) (vp_in_nI (n := 0) (N := 1) (by decide) (by decide)) ?_
        refine q_goto 22 dL_isCredible_16 (by decide) ?_
        refine q_iconst (v := 0) dL_isCredible_22 rfl ?_
        exact q_ireturn dL_isCredible_23 rfl rfl (by omega) (by omega) ⟨rfl, h1, hQ, rfl⟩
      | true =>
        refine q_if_eq 14 dL_isCredible_7 (by decide) (fun b => absurd b (by decide)) (fun b => ?_)
        refine q_lconst (v := 1) dL_isCredible_10 (by decide) ?_
        refine q_goto 15 dL_isCredible_11 (by decide) ?_
        refine q_last (f := f) dL_isCredible_15 (hB h1 hQ) (vp_in_nI (n := 0) (N := 1) (by decide) (by decide)) ?_
        refine q_goto 22 dL_isCredible_16 (by decide) ?_
        refine q_iconst (v := 0) dL_isCredible_22 rfl ?_
        exact q_ireturn dL_isCredible_23 rfl rfl (by omega) (by omega) ⟨rfl, h1, hQ, rfl⟩
    · cases eo
  · obtain ⟨eo, hQ⟩ := hQ
    rcases ho with ⟨w, rfl⟩ | rfl
    · cases eo
    · cases eo
      refine q_catch (nm := "java/util/NoSuchElementException") [] (0, 16, 19, 20) [] rfl rfl (fun z hz9 => absurd hz9 List.not_mem_nil) (by decide) (by decide) kL_L_20 kK_NoSuchElementException (k := 3) dL_isCredible_19 (by decide) rfl ?_
      change q_W _ _ _ _ _ _ _ _ 20 [.ref 100, .int xa, .ref 223, q_u] [] _
      refine q_iconst (v := 1) dL_isCredible_20 rfl ?_
      exact q_ireturn dL_isCredible_21 rfl rfl (by omega) (by omega) ⟨rfl, h1, hQ, rfl⟩
set_option maxRecDepth 100000 in
theorem e_L_isCertain {g : q_G} {h : q_H} {d dd mc' ms' : Nat} {xa : Int32} {o : q_O} {B : q_H → Prop} {f : Nat → Int64} {fs : List Value} (hr : h.2 100 = some (.inr (11, fs))) (hB : ∀ h1, B h1 → h1.2 223 = some (.inl (4, 1, .inr (.inl f)))) (ho : (∃ v, o = .inl (some (.int (z_b v)))) ∨ (o = .inr "java/util/NoSuchElementException")) (sp : q_Spec g mX10_isCertain dd mc' ms' [.ref 100, .int xa] h (q_chg o B)) (hd : dd + 1 ≤ d) : q_Spec g mL_isCertain d mc' ms' [.ref 100, .int xa, .ref 223] h (q_chg (.inl (some (.int (z_cd [("java/util/NoSuchElementException", 1)] o)))) (fun h2 => ∃ h1, B h1 ∧ h2 = z_outL o f h1)) := by
  refine q_enterH (by decide +kernel) (by decide) rfl (Nat.le_of_ble_eq_true rfl) (fun hz => ?_)
  change q_W _ _ _ _ _ _ _ _ _ [.ref 100, .int xa, .ref 223, q_u] [] _
  refine q_aload_n (by first | assumption | omega | decide | (rw [q_R0e]; omega)) dL_isCertain_0 rfl ?_
  refine q_iconst (v := 0) dL_isCertain_1 rfl ?_
  refine q_aload_n (by first | assumption | omega | decide | (rw [q_R0e]; omega)) dL_isCertain_2 rfl ?_
  refine q_iload_n dL_isCertain_3 rfl ?_
  refine q_invV (mc' := mc') (ms' := ms') (d' := dd) (as := [.int xa]) dL_isCertain_4 kM_X10_isCertain kL_L_96 kI_X10_isCertain kS_X10_isCertain rfl (kC_X10.1) hr rfl rfl (Nat.le_of_ble_eq_true rfl) hd (by decide) (by omega) (by omega) sp (fun v h1 hQ => ?_) (fun E h1 hQ => ?_)
  · obtain ⟨eo, hQ⟩ := hQ
    rcases ho with ⟨w, rfl⟩ | rfl
    · cases eo
      change q_W _ _ _ _ _ _ _ _ 7 [.ref 100, .int xa, .ref 223, q_u] [.int (z_b w), .int 0, .ref 223] _
      cases w with
      | false =>
        refine q_if_eq 14 dL_isCertain_7 (by decide) (fun b => ?_) (fun b => absurd rfl b)
        refine q_lconst (v := 0) dL_isCertain_14 (by decide) ?_
        refine q_last (f := f) dL_isCertain_15 (hB h1 hQ) (vp_in_nI (n := 0) (N := 1) (by decide) (by decide)) ?_
        refine q_goto 22 dL_isCertain_16 (by decide) ?_
        refine q_iconst (v := 0) dL_isCertain_22 rfl ?_
        exact q_ireturn dL_isCertain_23 rfl rfl (by omega) (by omega) ⟨rfl, h1, hQ, rfl⟩
      | true =>
        refine q_if_eq 14 dL_isCertain_7 (by decide) (fun b => absurd b (by decide)) (fun b => ?_)
        refine q_lconst (v := 1) dL_isCertain_10 (by decide) ?_
        refine q_goto 15 dL_isCertain_11 (by decide) ?_
        refine q_last (f := f) dL_isCertain_15 (hB h1 hQ) (vp_in_nI (n := 0) (N := 1) (by decide) (by decide)) ?_
        refine q_goto 22 dL_isCertain_16 (by decide) ?_
        refine q_iconst (v := 0) dL_isCertain_22 rfl ?_
        exact q_ireturn dL_isCertain_23 rfl rfl (by omega) (by omega) ⟨rfl, h1, hQ, rfl⟩
    · cases eo
  · obtain ⟨eo, hQ⟩ := hQ
    rcases ho with ⟨w, rfl⟩ | rfl
    · cases eo
    · cases eo
      refine q_catch (nm := "java/util/NoSuchElementException") [] (0, 16, 19, 20) [] rfl rfl (fun z hz9 => absurd hz9 List.not_mem_nil) (by decide) (by decide) kL_L_20 kK_NoSuchElementException (k := 3) dL_isCertain_19 (by decide) rfl ?_
      change q_W _ _ _ _ _ _ _ _ 20 [.ref 100, .int xa, .ref 223, q_u] [] _
      refine q_iconst (v := 1) dL_isCertain_20 rfl ?_
      exact q_ireturn dL_isCertain_21 rfl rfl (by omega) (by omega) ⟨rfl, h1, hQ, rfl⟩
set_option maxRecDepth 100000 in
theorem e_L_canStandTogether {g : q_G} {h : q_H} {d dd mc' ms' : Nat} {xa : Int32} {xc : Int32} {o : q_O} {B : q_H → Prop} {f : Nat → Int64} {fs : List Value} (hr : h.2 100 = some (.inr (11, fs))) (hB : ∀ h1, B h1 → h1.2 223 = some (.inl (4, 1, .inr (.inl f)))) (ho : (∃ v, o = .inl (some (.int (z_b v)))) ∨ (o = .inr "java/util/NoSuchElementException")) (sp : q_Spec g mX10_canStandTogether dd mc' ms' [.ref 100, .int xa, .int xc] h (q_chg o B)) (hd : dd + 1 ≤ d) : q_Spec g mL_canStandTogether d mc' ms' [.ref 100, .int xa, .int xc, .ref 223] h (q_chg (.inl (some (.int (z_cd [("java/util/NoSuchElementException", 1)] o)))) (fun h2 => ∃ h1, B h1 ∧ h2 = z_outL o f h1)) := by
  refine q_enterH (by decide +kernel) (by decide) rfl (Nat.le_of_ble_eq_true rfl) (fun hz => ?_)
  change q_W _ _ _ _ _ _ _ _ _ [.ref 100, .int xa, .int xc, .ref 223, q_u] [] _
  refine q_aload_n (by first | assumption | omega | decide | (rw [q_R0e]; omega)) dL_canStandTogether_0 rfl ?_
  refine q_iconst (v := 0) dL_canStandTogether_1 rfl ?_
  refine q_aload_n (by first | assumption | omega | decide | (rw [q_R0e]; omega)) dL_canStandTogether_2 rfl ?_
  refine q_iload_n dL_canStandTogether_3 rfl ?_
  refine q_iload_n dL_canStandTogether_4 rfl ?_
  refine q_invV (mc' := mc') (ms' := ms') (d' := dd) (as := [.int xa, .int xc]) dL_canStandTogether_5 kM_X10_canStandTogether kL_L_99 kI_X10_canStandTogether kS_X10_canStandTogether rfl (kC_X10.1) hr rfl rfl (Nat.le_of_ble_eq_true rfl) hd (by decide) (by omega) (by omega) sp (fun v h1 hQ => ?_) (fun E h1 hQ => ?_)
  · obtain ⟨eo, hQ⟩ := hQ
    rcases ho with ⟨w, rfl⟩ | rfl
    · cases eo
      change q_W _ _ _ _ _ _ _ _ 8 [.ref 100, .int xa, .int xc, .ref 223, q_u] [.int (z_b w), .int 0, .ref 223] _
      cases w with
      | false =>
        refine q_if_eq 15 dL_canStandTogether_8 (by decide) (fun b => ?_) (fun b => absurd rfl b)
        refine q_lconst (v := 0) dL_canStandTogether_15 (by decide) ?_
        refine q_last (f := f) dL_canStandTogether_16 (hB h1 hQ) (vp_in_nI (n := 0) (N := 1) (by decide) (by decide)) ?_
        refine q_goto 24 dL_canStandTogether_17 (by decide) ?_
        refine q_iconst (v := 0) dL_canStandTogether_24 rfl ?_
        exact q_ireturn dL_canStandTogether_25 rfl rfl (by omega) (by omega) ⟨rfl, h1, hQ, rfl⟩
      | true =>
        refine q_if_eq 15 dL_canStandTogether_8 (by decide) (fun b => absurd b (by decide)) (fun b => ?_)
        refine q_lconst (v := 1) dL_canStandTogether_11 (by decide) ?_
        refine q_goto 16 dL_canStandTogether_12 (by decide) ?_
        refine q_last (f := f) dL_canStandTogether_16 (hB h1 hQ) (vp_in_nI (n := 0) (N := 1) (by decide) (by decide)) ?_
        refine q_goto 24 dL_canStandTogether_17 (by decide) ?_
        refine q_iconst (v := 0) dL_canStandTogether_24 rfl ?_
        exact q_ireturn dL_canStandTogether_25 rfl rfl (by omega) (by omega) ⟨rfl, h1, hQ, rfl⟩
    · cases eo
  · obtain ⟨eo, hQ⟩ := hQ
    rcases ho with ⟨w, rfl⟩ | rfl
    · cases eo
    · cases eo
      refine q_catch4 (nm := "java/util/NoSuchElementException") [] (0, 17, 20, 20) [] rfl rfl (fun z hz9 => absurd hz9 List.not_mem_nil) (by decide) (by decide) kL_L_20 kK_NoSuchElementException (k := 4) dL_canStandTogether_20 (by decide) rfl ?_
      change q_W _ _ _ _ _ _ _ _ 22 [.ref 100, .int xa, .int xc, .ref 223, q_u] [] _
      refine q_iconst (v := 1) dL_canStandTogether_22 rfl ?_
      exact q_ireturn dL_canStandTogether_23 rfl rfl (by omega) (by omega) ⟨rfl, h1, hQ, rfl⟩
set_option maxRecDepth 100000 in
theorem e_L_daysUntilChange {g : q_G} {h : q_H} {d dd mc' ms' : Nat}  {o : q_O} {B : q_H → Prop} {f : Nat → Int64} {fs : List Value} (hr : h.2 100 = some (.inr (11, fs))) (hB : ∀ h1, B h1 → h1.2 223 = some (.inl (4, 1, .inr (.inl f)))) (ho : (∃ v, o = .inl (some (.int v))) ∨ (o = .inr "java/util/NoSuchElementException")) (sp : q_Spec g mX10_daysUntilChange dd mc' ms' [.ref 100] h (q_chg o B)) (hd : dd + 1 ≤ d) : q_Spec g mL_daysUntilChange d mc' ms' [.ref 100, .ref 223] h (q_chg (.inl (some (.int (z_cd [("java/util/NoSuchElementException", 1)] o)))) (fun h2 => ∃ h1, B h1 ∧ h2 = z_outL o f h1)) := by
  refine q_enterH (by decide +kernel) (by decide) rfl (Nat.le_of_ble_eq_true rfl) (fun hz => ?_)
  change q_W _ _ _ _ _ _ _ _ _ [.ref 100, .ref 223, q_u] [] _
  refine q_aload_n (by first | assumption | omega | decide | (rw [q_R0e]; omega)) dL_daysUntilChange_0 rfl ?_
  refine q_iconst (v := 0) dL_daysUntilChange_1 rfl ?_
  refine q_aload_n (by first | assumption | omega | decide | (rw [q_R0e]; omega)) dL_daysUntilChange_2 rfl ?_
  refine q_invV (mc' := mc') (ms' := ms') (d' := dd) (as := []) dL_daysUntilChange_3 kM_X10_daysUntilChange kL_L_102 kI_X10_daysUntilChange kS_X10_daysUntilChange rfl (kC_X10.1) hr rfl rfl (Nat.le_of_ble_eq_true rfl) hd (by decide) (by omega) (by omega) sp (fun v h1 hQ => ?_) (fun E h1 hQ => ?_)
  · obtain ⟨eo, hQ⟩ := hQ
    rcases ho with ⟨w, rfl⟩ | rfl
    · cases eo
      change q_W _ _ _ _ _ _ _ _ 6 [.ref 100, .ref 223, q_u] [.int w, .int 0, .ref 223] _
      refine q_i2l dL_daysUntilChange_6 rfl ?_
      refine q_last (f := f) dL_daysUntilChange_7 (hB h1 hQ) (vp_in_nI (n := 0) (N := 1) (by decide) (by decide)) ?_
      refine q_goto 14 dL_daysUntilChange_8 (by decide) ?_
      refine q_iconst (v := 0) dL_daysUntilChange_14 rfl ?_
      exact q_ireturn dL_daysUntilChange_15 rfl rfl (by omega) (by omega) ⟨rfl, h1, hQ, rfl⟩
    · cases eo
  · obtain ⟨eo, hQ⟩ := hQ
    rcases ho with ⟨w, rfl⟩ | rfl
    · cases eo
    · cases eo
      refine q_catch (nm := "java/util/NoSuchElementException") [] (0, 8, 11, 20) [] rfl rfl (fun z hz9 => absurd hz9 List.not_mem_nil) (by decide) (by decide) kL_L_20 kK_NoSuchElementException (k := 2) dL_daysUntilChange_11 (by decide) rfl ?_
      change q_W _ _ _ _ _ _ _ _ 12 [.ref 100, .ref 223, q_u] [] _
      refine q_iconst (v := 1) dL_daysUntilChange_12 rfl ?_
      exact q_ireturn dL_daysUntilChange_13 rfl rfl (by omega) (by omega) ⟨rfl, h1, hQ, rfl⟩
set_option maxRecDepth 100000 in
theorem e_L_statusAfter {g : q_G} {h : q_H} {d dd mc' ms' : Nat} {xa : Int32} {xc : Int32} {o : q_O} {B : q_H → Prop} {f : Nat → Int64} {fs : List Value} (hr : h.2 100 = some (.inr (11, fs))) (hB : ∀ h1, B h1 → h1.2 223 = some (.inl (4, 1, .inr (.inl f)))) (ho : (∃ v, o = .inl (some (.int v))) ∨ (o = .inr "java/util/NoSuchElementException") ∨ (o = .inr "java/lang/IllegalArgumentException")) (sp : q_Spec g mX10_statusAfter dd mc' ms' [.ref 100, .int xa, .int xc] h (q_chg o B)) (hd : dd + 1 ≤ d) : q_Spec g mL_statusAfter d mc' ms' [.ref 100, .int xa, .int xc, .ref 223] h (q_chg (.inl (some (.int (z_cd [("java/util/NoSuchElementException", 1), ("java/lang/IllegalArgumentException", 2)] o)))) (fun h2 => ∃ h1, B h1 ∧ h2 = z_outL o f h1)) := by
  refine q_enterH (by decide +kernel) (by decide) rfl (Nat.le_of_ble_eq_true rfl) (fun hz => ?_)
  change q_W _ _ _ _ _ _ _ _ _ [.ref 100, .int xa, .int xc, .ref 223, q_u] [] _
  refine q_aload_n (by first | assumption | omega | decide | (rw [q_R0e]; omega)) dL_statusAfter_0 rfl ?_
  refine q_iconst (v := 0) dL_statusAfter_1 rfl ?_
  refine q_aload_n (by first | assumption | omega | decide | (rw [q_R0e]; omega)) dL_statusAfter_2 rfl ?_
  refine q_iload_n dL_statusAfter_3 rfl ?_
  refine q_iload_n dL_statusAfter_4 rfl ?_
  refine q_invV (mc' := mc') (ms' := ms') (d' := dd) (as := [.int xa, .int xc]) dL_statusAfter_5 kM_X10_statusAfter kL_L_105 kI_X10_statusAfter kS_X10_statusAfter rfl (kC_X10.1) hr rfl rfl (Nat.le_of_ble_eq_true rfl) hd (by decide) (by omega) (by omega) sp (fun v h1 hQ => ?_) (fun E h1 hQ => ?_)
  · obtain ⟨eo, hQ⟩ := hQ
    rcases ho with ⟨w, rfl⟩ | rfl | rfl
    · cases eo
      change q_W _ _ _ _ _ _ _ _ 8 [.ref 100, .int xa, .int xc, .ref 223, q_u] [.int w, .int 0, .ref 223] _
      refine q_i2l dL_statusAfter_8 rfl ?_
      refine q_last (f := f) dL_statusAfter_9 (hB h1 hQ) (vp_in_nI (n := 0) (N := 1) (by decide) (by decide)) ?_
      refine q_goto 21 dL_statusAfter_10 (by decide) ?_
      refine q_iconst (v := 0) dL_statusAfter_21 rfl ?_
      exact q_ireturn dL_statusAfter_22 rfl rfl (by omega) (by omega) ⟨rfl, h1, hQ, rfl⟩
    · cases eo
    · cases eo
  · obtain ⟨eo, hQ⟩ := hQ
    rcases ho with ⟨w, rfl⟩ | rfl | rfl
    · cases eo
    · cases eo
      refine q_catch4 (nm := "java/util/NoSuchElementException") [] (0, 10, 13, 20) [(0, 10, 17, 13)] rfl rfl (fun z hz9 => absurd hz9 List.not_mem_nil) (by decide) (by decide) kL_L_20 kK_NoSuchElementException (k := 4) dL_statusAfter_13 (by decide) rfl ?_
      change q_W _ _ _ _ _ _ _ _ 15 [.ref 100, .int xa, .int xc, .ref 223, q_u] [] _
      refine q_iconst (v := 1) dL_statusAfter_15 rfl ?_
      exact q_ireturn dL_statusAfter_16 rfl rfl (by omega) (by omega) ⟨rfl, h1, hQ, rfl⟩
    · cases eo
      refine q_catch4 (nm := "java/lang/IllegalArgumentException") [(0, 10, 13, 20)] (0, 10, 17, 13) [] rfl rfl (fun z hz9 => by
        simp only [List.mem_cons, List.not_mem_nil, or_false] at hz9
        rcases hz9 with rfl
        · exact Or.inr ⟨by decide, "java/util/NoSuchElementException", kL_L_20, by simp [q_nc]⟩) (by decide) (by decide) kL_L_13 kK_IllegalArgumentException (k := 4) dL_statusAfter_17 (by decide) rfl ?_
      change q_W _ _ _ _ _ _ _ _ 19 [.ref 100, .int xa, .int xc, .ref 223, q_u] [] _
      refine q_iconst (v := 2) dL_statusAfter_19 rfl ?_
      exact q_ireturn dL_statusAfter_20 rfl rfl (by omega) (by omega) ⟨rfl, h1, hQ, rfl⟩
set_option maxRecDepth 100000 in
theorem e_L_argumentByStrength {g : q_G} {h : q_H} {d dd mc' ms' : Nat} {xa : Int32} {o : q_O} {B : q_H → Prop} {f : Nat → Int64} {fs : List Value} (hr : h.2 100 = some (.inr (11, fs))) (hB : ∀ h1, B h1 → h1.2 223 = some (.inl (4, 1, .inr (.inl f)))) (ho : (∃ v, o = .inl (some (.int v))) ∨ (o = .inr "java/util/NoSuchElementException")) (sp : q_Spec g mX10_argumentByStrength dd mc' ms' [.ref 100, .int xa] h (q_chg o B)) (hd : dd + 1 ≤ d) : q_Spec g mL_argumentByStrength d mc' ms' [.ref 100, .int xa, .ref 223] h (q_chg (.inl (some (.int (z_cd [("java/util/NoSuchElementException", 1)] o)))) (fun h2 => ∃ h1, B h1 ∧ h2 = z_outL o f h1)) := by
  refine q_enterH (by decide +kernel) (by decide) rfl (Nat.le_of_ble_eq_true rfl) (fun hz => ?_)
  change q_W _ _ _ _ _ _ _ _ _ [.ref 100, .int xa, .ref 223, q_u] [] _
  refine q_aload_n (by first | assumption | omega | decide | (rw [q_R0e]; omega)) dL_argumentByStrength_0 rfl ?_
  refine q_iconst (v := 0) dL_argumentByStrength_1 rfl ?_
  refine q_aload_n (by first | assumption | omega | decide | (rw [q_R0e]; omega)) dL_argumentByStrength_2 rfl ?_
  refine q_iload_n dL_argumentByStrength_3 rfl ?_
  refine q_invV (mc' := mc') (ms' := ms') (d' := dd) (as := [.int xa]) dL_argumentByStrength_4 kM_X10_argumentByStrength kL_L_109 kI_X10_argumentByStrength kS_X10_argumentByStrength rfl (kC_X10.1) hr rfl rfl (Nat.le_of_ble_eq_true rfl) hd (by decide) (by omega) (by omega) sp (fun v h1 hQ => ?_) (fun E h1 hQ => ?_)
  · obtain ⟨eo, hQ⟩ := hQ
    rcases ho with ⟨w, rfl⟩ | rfl
    · cases eo
      change q_W _ _ _ _ _ _ _ _ 7 [.ref 100, .int xa, .ref 223, q_u] [.int w, .int 0, .ref 223] _
      refine q_i2l dL_argumentByStrength_7 rfl ?_
      refine q_last (f := f) dL_argumentByStrength_8 (hB h1 hQ) (vp_in_nI (n := 0) (N := 1) (by decide) (by decide)) ?_
      refine q_goto 15 dL_argumentByStrength_9 (by decide) ?_
      refine q_iconst (v := 0) dL_argumentByStrength_15 rfl ?_
      exact q_ireturn dL_argumentByStrength_16 rfl rfl (by omega) (by omega) ⟨rfl, h1, hQ, rfl⟩
    · cases eo
  · obtain ⟨eo, hQ⟩ := hQ
    rcases ho with ⟨w, rfl⟩ | rfl
    · cases eo
    · cases eo
      refine q_catch (nm := "java/util/NoSuchElementException") [] (0, 9, 12, 20) [] rfl rfl (fun z hz9 => absurd hz9 List.not_mem_nil) (by decide) (by decide) kL_L_20 kK_NoSuchElementException (k := 3) dL_argumentByStrength_12 (by decide) rfl ?_
      change q_W _ _ _ _ _ _ _ _ 13 [.ref 100, .int xa, .ref 223, q_u] [] _
      refine q_iconst (v := 1) dL_argumentByStrength_13 rfl ?_
      exact q_ireturn dL_argumentByStrength_14 rfl rfl (by omega) (by omega) ⟨rfl, h1, hQ, rfl⟩
set_option maxRecDepth 100000 in
theorem e_L_moveAt {g : q_G} {h : q_H} {d dd mc' ms' : Nat} {xa : Int32} {o : q_O} {B : q_H → Prop} {f : Nat → Int64} {fs : List Value} (hr : h.2 100 = some (.inr (11, fs))) (hB : ∀ h1, B h1 → h1.2 223 = some (.inl (4, 1, .inr (.inl f)))) (ho : (∃ v, o = .inl (some (.int v))) ∨ (o = .inr "java/lang/IndexOutOfBoundsException")) (sp : q_Spec g mX10_moveAt dd mc' ms' [.ref 100, .int xa] h (q_chg o B)) (hd : dd + 1 ≤ d) : q_Spec g mL_moveAt d mc' ms' [.ref 100, .int xa, .ref 223] h (q_chg (.inl (some (.int (z_cd [("java/lang/IndexOutOfBoundsException", 1)] o)))) (fun h2 => ∃ h1, B h1 ∧ h2 = z_outL o f h1)) := by
  refine q_enterH (by decide +kernel) (by decide) rfl (Nat.le_of_ble_eq_true rfl) (fun hz => ?_)
  change q_W _ _ _ _ _ _ _ _ _ [.ref 100, .int xa, .ref 223, q_u] [] _
  refine q_aload_n (by first | assumption | omega | decide | (rw [q_R0e]; omega)) dL_moveAt_0 rfl ?_
  refine q_iconst (v := 0) dL_moveAt_1 rfl ?_
  refine q_aload_n (by first | assumption | omega | decide | (rw [q_R0e]; omega)) dL_moveAt_2 rfl ?_
  refine q_iload_n dL_moveAt_3 rfl ?_
  refine q_invV (mc' := mc') (ms' := ms') (d' := dd) (as := [.int xa]) dL_moveAt_4 kM_X10_moveAt kL_L_112 kI_X10_moveAt kS_X10_moveAt rfl (kC_X10.1) hr rfl rfl (Nat.le_of_ble_eq_true rfl) hd (by decide) (by omega) (by omega) sp (fun v h1 hQ => ?_) (fun E h1 hQ => ?_)
  · obtain ⟨eo, hQ⟩ := hQ
    rcases ho with ⟨w, rfl⟩ | rfl
    · cases eo
      change q_W _ _ _ _ _ _ _ _ 7 [.ref 100, .int xa, .ref 223, q_u] [.int w, .int 0, .ref 223] _
      refine q_i2l dL_moveAt_7 rfl ?_
      refine q_last (f := f) dL_moveAt_8 (hB h1 hQ) (vp_in_nI (n := 0) (N := 1) (by decide) (by decide)) ?_
      refine q_goto 15 dL_moveAt_9 (by decide) ?_
      refine q_iconst (v := 0) dL_moveAt_15 rfl ?_
      exact q_ireturn dL_moveAt_16 rfl rfl (by omega) (by omega) ⟨rfl, h1, hQ, rfl⟩
    · cases eo
  · obtain ⟨eo, hQ⟩ := hQ
    rcases ho with ⟨w, rfl⟩ | rfl
    · cases eo
    · cases eo
      refine q_catch (nm := "java/lang/IndexOutOfBoundsException") [] (0, 9, 12, 55) [] rfl rfl (fun z hz9 => absurd hz9 List.not_mem_nil) (by decide) (by decide) kL_L_55 kK_IndexOutOfBoundsException (k := 3) dL_moveAt_12 (by decide) rfl ?_
      change q_W _ _ _ _ _ _ _ _ 13 [.ref 100, .int xa, .ref 223, q_u] [] _
      refine q_iconst (v := 1) dL_moveAt_13 rfl ?_
      exact q_ireturn dL_moveAt_14 rfl rfl (by omega) (by omega) ⟨rfl, h1, hQ, rfl⟩
set_option maxRecDepth 100000 in
theorem e_L_canMove {g : q_G} {h : q_H} {d dd mc' ms' : Nat} {xa : Int32} {o : q_O} {B : q_H → Prop} {f : Nat → Int64} {fs : List Value} (hr : h.2 100 = some (.inr (11, fs))) (hB : ∀ h1, B h1 → h1.2 223 = some (.inl (4, 1, .inr (.inl f)))) (ho : (∃ v, o = .inl (some (.int (z_b v)))) ∨ (o = .inr "java/util/NoSuchElementException")) (sp : q_Spec g mX10_canMove dd mc' ms' [.ref 100, .int xa] h (q_chg o B)) (hd : dd + 1 ≤ d) : q_Spec g mL_canMove d mc' ms' [.ref 100, .int xa, .ref 223] h (q_chg (.inl (some (.int (z_cd [("java/util/NoSuchElementException", 1)] o)))) (fun h2 => ∃ h1, B h1 ∧ h2 = z_outL o f h1)) := by
  refine q_enterH (by decide +kernel) (by decide) rfl (Nat.le_of_ble_eq_true rfl) (fun hz => ?_)
  change q_W _ _ _ _ _ _ _ _ _ [.ref 100, .int xa, .ref 223, q_u] [] _
  refine q_aload_n (by first | assumption | omega | decide | (rw [q_R0e]; omega)) dL_canMove_0 rfl ?_
  refine q_iconst (v := 0) dL_canMove_1 rfl ?_
  refine q_aload_n (by first | assumption | omega | decide | (rw [q_R0e]; omega)) dL_canMove_2 rfl ?_
  refine q_iload_n dL_canMove_3 rfl ?_
  refine q_invV (mc' := mc') (ms' := ms') (d' := dd) (as := [.int xa]) dL_canMove_4 kM_X10_canMove kL_L_115 kI_X10_canMove kS_X10_canMove rfl (kC_X10.1) hr rfl rfl (Nat.le_of_ble_eq_true rfl) hd (by decide) (by omega) (by omega) sp (fun v h1 hQ => ?_) (fun E h1 hQ => ?_)
  · obtain ⟨eo, hQ⟩ := hQ
    rcases ho with ⟨w, rfl⟩ | rfl
    · cases eo
      change q_W _ _ _ _ _ _ _ _ 7 [.ref 100, .int xa, .ref 223, q_u] [.int (z_b w), .int 0, .ref 223] _
      cases w with
      | false =>
        refine q_if_eq 14 dL_canMove_7 (by decide) (fun b => ?_) (fun b => absurd rfl b)
        refine q_lconst (v := 0) dL_canMove_14 (by decide) ?_
        refine q_last (f := f) dL_canMove_15 (hB h1 hQ) (vp_in_nI (n := 0) (N := 1) (by decide) (by decide)) ?_
        refine q_goto 22 dL_canMove_16 (by decide) ?_
        refine q_iconst (v := 0) dL_canMove_22 rfl ?_
        exact q_ireturn dL_canMove_23 rfl rfl (by omega) (by omega) ⟨rfl, h1, hQ, rfl⟩
      | true =>
        refine q_if_eq 14 dL_canMove_7 (by decide) (fun b => absurd b (by decide)) (fun b => ?_)
        refine q_lconst (v := 1) dL_canMove_10 (by decide) ?_
        refine q_goto 15 dL_canMove_11 (by decide) ?_
        refine q_last (f := f) dL_canMove_15 (hB h1 hQ) (vp_in_nI (n := 0) (N := 1) (by decide) (by decide)) ?_
        refine q_goto 22 dL_canMove_16 (by decide) ?_
        refine q_iconst (v := 0) dL_canMove_22 rfl ?_
        exact q_ireturn dL_canMove_23 rfl rfl (by omega) (by omega) ⟨rfl, h1, hQ, rfl⟩
    · cases eo
  · obtain ⟨eo, hQ⟩ := hQ
    rcases ho with ⟨w, rfl⟩ | rfl
    · cases eo
    · cases eo
      refine q_catch (nm := "java/util/NoSuchElementException") [] (0, 16, 19, 20) [] rfl rfl (fun z hz9 => absurd hz9 List.not_mem_nil) (by decide) (by decide) kL_L_20 kK_NoSuchElementException (k := 3) dL_canMove_19 (by decide) rfl ?_
      change q_W _ _ _ _ _ _ _ _ 20 [.ref 100, .int xa, .ref 223, q_u] [] _
      refine q_iconst (v := 1) dL_canMove_20 rfl ?_
      exact q_ireturn dL_canMove_21 rfl rfl (by omega) (by omega) ⟨rfl, h1, hQ, rfl⟩
set_option maxRecDepth 100000 in
theorem e_L_meanStrength {g : q_G} {h : q_H} {d dd mc' ms' : Nat}  {o : q_O} {B : q_H → Prop} {f : Nat → UInt64} {fs : List Value} (hr : h.2 100 = some (.inr (11, fs))) (hB : ∀ h1, B h1 → h1.2 224 = some (.inl (5, 1, .inr (.inr (.inr (.inl f)))))) (ho : (∃ v, o = .inl (some (.double v))) ∨ (o = .inr "java/lang/ArithmeticException")) (sp : q_Spec g mX10_meanStrength dd mc' ms' [.ref 100] h (q_chg o B)) (hd : dd + 1 ≤ d) : q_Spec g mL_meanStrength d mc' ms' [.ref 100, .ref 224] h (q_chg (.inl (some (.int (z_cd [("java/lang/ArithmeticException", 1)] o)))) (fun h2 => ∃ h1, B h1 ∧ h2 = z_outD o f h1)) := by
  refine q_enterH (by decide +kernel) (by decide) rfl (Nat.le_of_ble_eq_true rfl) (fun hz => ?_)
  change q_W _ _ _ _ _ _ _ _ _ [.ref 100, .ref 224, q_u] [] _
  refine q_aload_n (by first | assumption | omega | decide | (rw [q_R0e]; omega)) dL_meanStrength_0 rfl ?_
  refine q_iconst (v := 0) dL_meanStrength_1 rfl ?_
  refine q_aload_n (by first | assumption | omega | decide | (rw [q_R0e]; omega)) dL_meanStrength_2 rfl ?_
  refine q_invV (mc' := mc') (ms' := ms') (d' := dd) (as := []) dL_meanStrength_3 kM_X10_meanStrength kL_L_118 kI_X10_meanStrength kS_X10_meanStrength rfl (kC_X10.1) hr rfl rfl (Nat.le_of_ble_eq_true rfl) hd (by decide) (by omega) (by omega) sp (fun v h1 hQ => ?_) (fun E h1 hQ => ?_)
  · obtain ⟨eo, hQ⟩ := hQ
    rcases ho with ⟨w, rfl⟩ | rfl
    · cases eo
      change q_W _ _ _ _ _ _ _ _ 6 [.ref 100, .ref 224, q_u] [.double w, .int 0, .ref 224] _
      refine q_dast (f := f) dL_meanStrength_6 (hB h1 hQ) (vp_in_nI (n := 0) (N := 1) (by decide) (by decide)) ?_
      refine q_goto 13 dL_meanStrength_7 (by decide) ?_
      refine q_iconst (v := 0) dL_meanStrength_13 rfl ?_
      exact q_ireturn dL_meanStrength_14 rfl rfl (by omega) (by omega) ⟨rfl, h1, hQ, rfl⟩
    · cases eo
  · obtain ⟨eo, hQ⟩ := hQ
    rcases ho with ⟨w, rfl⟩ | rfl
    · cases eo
    · cases eo
      refine q_catch (nm := "java/lang/ArithmeticException") [] (0, 7, 10, 122) [] rfl rfl (fun z hz9 => absurd hz9 List.not_mem_nil) (by decide) (by decide) kL_L_122 kK_ArithmeticException (k := 2) dL_meanStrength_10 (by decide) rfl ?_
      change q_W _ _ _ _ _ _ _ _ 11 [.ref 100, .ref 224, q_u] [] _
      refine q_iconst (v := 1) dL_meanStrength_11 rfl ?_
      exact q_ireturn dL_meanStrength_12 rfl rfl (by omega) (by omega) ⟨rfl, h1, hQ, rfl⟩
set_option maxRecDepth 100000 in
theorem e_L_acceptedShare {g : q_G} {h : q_H} {d dd mc' ms' : Nat}  {o : q_O} {B : q_H → Prop} {f : Nat → UInt64} {fs : List Value} (hr : h.2 100 = some (.inr (11, fs))) (hB : ∀ h1, B h1 → h1.2 224 = some (.inl (5, 1, .inr (.inr (.inr (.inl f)))))) (ho : (∃ v, o = .inl (some (.float v)) ∧ vf_n64 (FP.f2d v)) ∨ (o = .inr "java/lang/ArithmeticException")) (sp : q_Spec g mX10_acceptedShare dd mc' ms' [.ref 100] h (q_chg o B)) (hd : dd + 1 ≤ d) : q_Spec g mL_acceptedShare d mc' ms' [.ref 100, .ref 224] h (q_chg (.inl (some (.int (z_cd [("java/lang/ArithmeticException", 1)] o)))) (fun h2 => ∃ h1, B h1 ∧ h2 = z_outD o f h1)) := by
  refine q_enterH (by decide +kernel) (by decide) rfl (Nat.le_of_ble_eq_true rfl) (fun hz => ?_)
  change q_W _ _ _ _ _ _ _ _ _ [.ref 100, .ref 224, q_u] [] _
  refine q_aload_n (by first | assumption | omega | decide | (rw [q_R0e]; omega)) dL_acceptedShare_0 rfl ?_
  refine q_iconst (v := 0) dL_acceptedShare_1 rfl ?_
  refine q_aload_n (by first | assumption | omega | decide | (rw [q_R0e]; omega)) dL_acceptedShare_2 rfl ?_
  refine q_invV (mc' := mc') (ms' := ms') (d' := dd) (as := []) dL_acceptedShare_3 kM_X10_acceptedShare kL_L_124 kI_X10_acceptedShare kS_X10_acceptedShare rfl (kC_X10.1) hr rfl rfl (Nat.le_of_ble_eq_true rfl) hd (by decide) (by omega) (by omega) sp (fun v h1 hQ => ?_) (fun E h1 hQ => ?_)
  · obtain ⟨eo, hQ⟩ := hQ
    rcases ho with ⟨w, rfl, hw⟩ | rfl
    · cases eo
      change q_W _ _ _ _ _ _ _ _ 6 [.ref 100, .ref 224, q_u] [.float w, .int 0, .ref 224] _
      refine q_f2d dL_acceptedShare_6 hw ?_
      refine q_dast (f := f) dL_acceptedShare_7 (hB h1 hQ) (vp_in_nI (n := 0) (N := 1) (by decide) (by decide)) ?_
      refine q_goto 14 dL_acceptedShare_8 (by decide) ?_
      refine q_iconst (v := 0) dL_acceptedShare_14 rfl ?_
      exact q_ireturn dL_acceptedShare_15 rfl rfl (by omega) (by omega) ⟨rfl, h1, hQ, rfl⟩
    · cases eo
  · obtain ⟨eo, hQ⟩ := hQ
    rcases ho with ⟨w, rfl, hw⟩ | rfl
    · cases eo
    · cases eo
      refine q_catch (nm := "java/lang/ArithmeticException") [] (0, 8, 11, 122) [] rfl rfl (fun z hz9 => absurd hz9 List.not_mem_nil) (by decide) (by decide) kL_L_122 kK_ArithmeticException (k := 2) dL_acceptedShare_11 (by decide) rfl ?_
      change q_W _ _ _ _ _ _ _ _ 12 [.ref 100, .ref 224, q_u] [] _
      refine q_iconst (v := 1) dL_acceptedShare_12 rfl ?_
      exact q_ireturn dL_acceptedShare_13 rfl rfl (by omega) (by omega) ⟨rfl, h1, hQ, rfl⟩
set_option maxRecDepth 100000 in
theorem e_L_formatArgument {g : q_G} {h : q_H} {d dd mc' ms' : Nat} {xa : Int32} {o : q_O} {B : q_H → Prop} {f : Nat → Int64} {fs : List Value} (hr : h.2 100 = some (.inr (11, fs))) (hB : ∀ h1, B h1 → h1.2 223 = some (.inl (4, 1, .inr (.inl f)))) (ho : (∃ v, o = .inl (some (.int v))) ∨ (o = .inr "java/util/NoSuchElementException")) (sp : q_Spec g mX10_formatArgument dd mc' ms' [.ref 100, .int xa] h (q_chg o B)) (hd : dd + 1 ≤ d) : q_Spec g mL_formatArgument d mc' ms' [.ref 100, .int xa, .ref 223] h (q_chg (.inl (some (.int (z_cd [("java/util/NoSuchElementException", 1)] o)))) (fun h2 => ∃ h1, B h1 ∧ h2 = z_outL o f h1)) := by
  refine q_enterH (by decide +kernel) (by decide) rfl (Nat.le_of_ble_eq_true rfl) (fun hz => ?_)
  change q_W _ _ _ _ _ _ _ _ _ [.ref 100, .int xa, .ref 223, q_u] [] _
  refine q_aload_n (by first | assumption | omega | decide | (rw [q_R0e]; omega)) dL_formatArgument_0 rfl ?_
  refine q_iconst (v := 0) dL_formatArgument_1 rfl ?_
  refine q_aload_n (by first | assumption | omega | decide | (rw [q_R0e]; omega)) dL_formatArgument_2 rfl ?_
  refine q_iload_n dL_formatArgument_3 rfl ?_
  refine q_invV (mc' := mc') (ms' := ms') (d' := dd) (as := [.int xa]) dL_formatArgument_4 kM_X10_formatArgument kL_L_128 kI_X10_formatArgument kS_X10_formatArgument rfl (kC_X10.1) hr rfl rfl (Nat.le_of_ble_eq_true rfl) hd (by decide) (by omega) (by omega) sp (fun v h1 hQ => ?_) (fun E h1 hQ => ?_)
  · obtain ⟨eo, hQ⟩ := hQ
    rcases ho with ⟨w, rfl⟩ | rfl
    · cases eo
      change q_W _ _ _ _ _ _ _ _ 7 [.ref 100, .int xa, .ref 223, q_u] [.int w, .int 0, .ref 223] _
      refine q_i2l dL_formatArgument_7 rfl ?_
      refine q_last (f := f) dL_formatArgument_8 (hB h1 hQ) (vp_in_nI (n := 0) (N := 1) (by decide) (by decide)) ?_
      refine q_goto 15 dL_formatArgument_9 (by decide) ?_
      refine q_iconst (v := 0) dL_formatArgument_15 rfl ?_
      exact q_ireturn dL_formatArgument_16 rfl rfl (by omega) (by omega) ⟨rfl, h1, hQ, rfl⟩
    · cases eo
  · obtain ⟨eo, hQ⟩ := hQ
    rcases ho with ⟨w, rfl⟩ | rfl
    · cases eo
    · cases eo
      refine q_catch (nm := "java/util/NoSuchElementException") [] (0, 9, 12, 20) [] rfl rfl (fun z hz9 => absurd hz9 List.not_mem_nil) (by decide) (by decide) kL_L_20 kK_NoSuchElementException (k := 3) dL_formatArgument_12 (by decide) rfl ?_
      change q_W _ _ _ _ _ _ _ _ 13 [.ref 100, .int xa, .ref 223, q_u] [] _
      refine q_iconst (v := 1) dL_formatArgument_13 rfl ?_
      exact q_ireturn dL_formatArgument_14 rfl rfl (by omega) (by omega) ⟨rfl, h1, hQ, rfl⟩
set_option maxRecDepth 100000 in
theorem e_L_formatDialogue {g : q_G} {h : q_H} {d dd mc' ms' : Nat}  {o : q_O} {B : q_H → Prop} {f : Nat → Int64} {fs : List Value} (hr : h.2 100 = some (.inr (11, fs))) (hB : ∀ h1, B h1 → h1.2 223 = some (.inl (4, 1, .inr (.inl f)))) (ho : (∃ v, o = .inl (some (.int v))) ∨ (o = .inr "java/util/NoSuchElementException")) (sp : q_Spec g mX10_formatDialogue dd mc' ms' [.ref 100] h (q_chg o B)) (hd : dd + 1 ≤ d) : q_Spec g mL_formatDialogue d mc' ms' [.ref 100, .ref 223] h (q_chg (.inl (some (.int (z_cd [("java/util/NoSuchElementException", 1)] o)))) (fun h2 => ∃ h1, B h1 ∧ h2 = z_outL o f h1)) := by
  refine q_enterH (by decide +kernel) (by decide) rfl (Nat.le_of_ble_eq_true rfl) (fun hz => ?_)
  change q_W _ _ _ _ _ _ _ _ _ [.ref 100, .ref 223, q_u] [] _
  refine q_aload_n (by first | assumption | omega | decide | (rw [q_R0e]; omega)) dL_formatDialogue_0 rfl ?_
  refine q_iconst (v := 0) dL_formatDialogue_1 rfl ?_
  refine q_aload_n (by first | assumption | omega | decide | (rw [q_R0e]; omega)) dL_formatDialogue_2 rfl ?_
  refine q_invV (mc' := mc') (ms' := ms') (d' := dd) (as := []) dL_formatDialogue_3 kM_X10_formatDialogue kL_L_131 kI_X10_formatDialogue kS_X10_formatDialogue rfl (kC_X10.1) hr rfl rfl (Nat.le_of_ble_eq_true rfl) hd (by decide) (by omega) (by omega) sp (fun v h1 hQ => ?_) (fun E h1 hQ => ?_)
  · obtain ⟨eo, hQ⟩ := hQ
    rcases ho with ⟨w, rfl⟩ | rfl
    · cases eo
      change q_W _ _ _ _ _ _ _ _ 6 [.ref 100, .ref 223, q_u] [.int w, .int 0, .ref 223] _
      refine q_i2l dL_formatDialogue_6 rfl ?_
      refine q_last (f := f) dL_formatDialogue_7 (hB h1 hQ) (vp_in_nI (n := 0) (N := 1) (by decide) (by decide)) ?_
      refine q_goto 14 dL_formatDialogue_8 (by decide) ?_
      refine q_iconst (v := 0) dL_formatDialogue_14 rfl ?_
      exact q_ireturn dL_formatDialogue_15 rfl rfl (by omega) (by omega) ⟨rfl, h1, hQ, rfl⟩
    · cases eo
  · obtain ⟨eo, hQ⟩ := hQ
    rcases ho with ⟨w, rfl⟩ | rfl
    · cases eo
    · cases eo
      refine q_catch (nm := "java/util/NoSuchElementException") [] (0, 8, 11, 20) [] rfl rfl (fun z hz9 => absurd hz9 List.not_mem_nil) (by decide) (by decide) kL_L_20 kK_NoSuchElementException (k := 2) dL_formatDialogue_11 (by decide) rfl ?_
      change q_W _ _ _ _ _ _ _ _ 12 [.ref 100, .ref 223, q_u] [] _
      refine q_iconst (v := 1) dL_formatDialogue_12 rfl ?_
      exact q_ireturn dL_formatDialogue_13 rfl rfl (by omega) (by omega) ⟨rfl, h1, hQ, rfl⟩
set_option maxRecDepth 100000 in
theorem e_L_lineChar {g : q_G} {h : q_H} {d dd mc' ms' : Nat} {xa : Int32} {o : q_O} {B : q_H → Prop} {f : Nat → Int64} {fs : List Value} (hr : h.2 100 = some (.inr (11, fs))) (hB : ∀ h1, B h1 → h1.2 223 = some (.inl (4, 1, .inr (.inl f)))) (ho : (∃ v, o = .inl (some (.int v))) ∨ (o = .inr "java/lang/IndexOutOfBoundsException")) (sp : q_Spec g mX10_lineChar dd mc' ms' [.ref 100, .int xa] h (q_chg o B)) (hd : dd + 1 ≤ d) : q_Spec g mL_lineChar d mc' ms' [.ref 100, .int xa, .ref 223] h (q_chg (.inl (some (.int (z_cd [("java/lang/IndexOutOfBoundsException", 1)] o)))) (fun h2 => ∃ h1, B h1 ∧ h2 = z_outL o f h1)) := by
  refine q_enterH (by decide +kernel) (by decide) rfl (Nat.le_of_ble_eq_true rfl) (fun hz => ?_)
  change q_W _ _ _ _ _ _ _ _ _ [.ref 100, .int xa, .ref 223, q_u] [] _
  refine q_aload_n (by first | assumption | omega | decide | (rw [q_R0e]; omega)) dL_lineChar_0 rfl ?_
  refine q_iconst (v := 0) dL_lineChar_1 rfl ?_
  refine q_aload_n (by first | assumption | omega | decide | (rw [q_R0e]; omega)) dL_lineChar_2 rfl ?_
  refine q_iload_n dL_lineChar_3 rfl ?_
  refine q_invV (mc' := mc') (ms' := ms') (d' := dd) (as := [.int xa]) dL_lineChar_4 kM_X10_lineChar kL_L_134 kI_X10_lineChar kS_X10_lineChar rfl (kC_X10.1) hr rfl rfl (Nat.le_of_ble_eq_true rfl) hd (by decide) (by omega) (by omega) sp (fun v h1 hQ => ?_) (fun E h1 hQ => ?_)
  · obtain ⟨eo, hQ⟩ := hQ
    rcases ho with ⟨w, rfl⟩ | rfl
    · cases eo
      change q_W _ _ _ _ _ _ _ _ 7 [.ref 100, .int xa, .ref 223, q_u] [.int w, .int 0, .ref 223] _
      refine q_i2l dL_lineChar_7 rfl ?_
      refine q_last (f := f) dL_lineChar_8 (hB h1 hQ) (vp_in_nI (n := 0) (N := 1) (by decide) (by decide)) ?_
      refine q_goto 15 dL_lineChar_9 (by decide) ?_
      refine q_iconst (v := 0) dL_lineChar_15 rfl ?_
      exact q_ireturn dL_lineChar_16 rfl rfl (by omega) (by omega) ⟨rfl, h1, hQ, rfl⟩
    · cases eo
  · obtain ⟨eo, hQ⟩ := hQ
    rcases ho with ⟨w, rfl⟩ | rfl
    · cases eo
    · cases eo
      refine q_catch (nm := "java/lang/IndexOutOfBoundsException") [] (0, 9, 12, 55) [] rfl rfl (fun z hz9 => absurd hz9 List.not_mem_nil) (by decide) (by decide) kL_L_55 kK_IndexOutOfBoundsException (k := 3) dL_lineChar_12 (by decide) rfl ?_
      change q_W _ _ _ _ _ _ _ _ 13 [.ref 100, .int xa, .ref 223, q_u] [] _
      refine q_iconst (v := 1) dL_lineChar_13 rfl ?_
      exact q_ireturn dL_lineChar_14 rfl rfl (by omega) (by omega) ⟨rfl, h1, hQ, rfl⟩
set_option maxRecDepth 100000 in
theorem e_L_append {g : q_G} {h : q_H} {d dd mc' ms' : Nat} {xa : Int32} {o : q_O} {B : q_H → Prop} {f : Nat → Int64} {fs : List Value} (hr : h.2 100 = some (.inr (11, fs))) (hB : ∀ h1, B h1 → h1.2 223 = some (.inl (4, 1, .inr (.inl f)))) (ho : (∃ v, o = .inl (some (.int v))) ∨ (o = .inr "java/lang/IllegalArgumentException") ∨ (o = .inr "java/lang/IllegalStateException")) (sp : q_Spec g mX10_append dd mc' ms' [.ref 100, .int xa] h (q_chg o B)) (hd : dd + 1 ≤ d) : q_Spec g mL_append d mc' ms' [.ref 100, .int xa, .ref 223] h (q_chg (.inl (some (.int (z_cd [("java/lang/IllegalArgumentException", 1), ("java/lang/IllegalStateException", 2)] o)))) (fun h2 => ∃ h1, B h1 ∧ h2 = z_outL o f h1)) := by
  refine q_enterH (by decide +kernel) (by decide) rfl (Nat.le_of_ble_eq_true rfl) (fun hz => ?_)
  change q_W _ _ _ _ _ _ _ _ _ [.ref 100, .int xa, .ref 223, q_u] [] _
  refine q_aload_n (by first | assumption | omega | decide | (rw [q_R0e]; omega)) dL_append_0 rfl ?_
  refine q_iconst (v := 0) dL_append_1 rfl ?_
  refine q_aload_n (by first | assumption | omega | decide | (rw [q_R0e]; omega)) dL_append_2 rfl ?_
  refine q_iload_n dL_append_3 rfl ?_
  refine q_invV (mc' := mc') (ms' := ms') (d' := dd) (as := [.int xa]) dL_append_4 kM_X10_append kL_L_137 kI_X10_append kS_X10_append rfl (kC_X10.1) hr rfl rfl (Nat.le_of_ble_eq_true rfl) hd (by decide) (by omega) (by omega) sp (fun v h1 hQ => ?_) (fun E h1 hQ => ?_)
  · obtain ⟨eo, hQ⟩ := hQ
    rcases ho with ⟨w, rfl⟩ | rfl | rfl
    · cases eo
      change q_W _ _ _ _ _ _ _ _ 7 [.ref 100, .int xa, .ref 223, q_u] [.int w, .int 0, .ref 223] _
      refine q_i2l dL_append_7 rfl ?_
      refine q_last (f := f) dL_append_8 (hB h1 hQ) (vp_in_nI (n := 0) (N := 1) (by decide) (by decide)) ?_
      refine q_goto 18 dL_append_9 (by decide) ?_
      refine q_iconst (v := 0) dL_append_18 rfl ?_
      exact q_ireturn dL_append_19 rfl rfl (by omega) (by omega) ⟨rfl, h1, hQ, rfl⟩
    · cases eo
    · cases eo
  · obtain ⟨eo, hQ⟩ := hQ
    rcases ho with ⟨w, rfl⟩ | rfl | rfl
    · cases eo
    · cases eo
      refine q_catch (nm := "java/lang/IllegalArgumentException") [] (0, 9, 12, 13) [(0, 9, 15, 15)] rfl rfl (fun z hz9 => absurd hz9 List.not_mem_nil) (by decide) (by decide) kL_L_13 kK_IllegalArgumentException (k := 3) dL_append_12 (by decide) rfl ?_
      change q_W _ _ _ _ _ _ _ _ 13 [.ref 100, .int xa, .ref 223, q_u] [] _
      refine q_iconst (v := 1) dL_append_13 rfl ?_
      exact q_ireturn dL_append_14 rfl rfl (by omega) (by omega) ⟨rfl, h1, hQ, rfl⟩
    · cases eo
      refine q_catch (nm := "java/lang/IllegalStateException") [(0, 9, 12, 13)] (0, 9, 15, 15) [] rfl rfl (fun z hz9 => by
        simp only [List.mem_cons, List.not_mem_nil, or_false] at hz9
        rcases hz9 with rfl
        · exact Or.inr ⟨by decide, "java/lang/IllegalArgumentException", kL_L_13, by simp [q_nc]⟩) (by decide) (by decide) kL_L_15 kK_IllegalStateException (k := 3) dL_append_15 (by decide) rfl ?_
      change q_W _ _ _ _ _ _ _ _ 16 [.ref 100, .int xa, .ref 223, q_u] [] _
      refine q_iconst (v := 2) dL_append_16 rfl ?_
      exact q_ireturn dL_append_17 rfl rfl (by omega) (by omega) ⟨rfl, h1, hQ, rfl⟩
set_option maxRecDepth 100000 in
theorem e_L_run {g : q_G} {h : q_H} {d dd mc' ms' : Nat}  {o : q_O} {B : q_H → Prop} {f : Nat → Int64} {fs : List Value} (hr : h.2 100 = some (.inr (11, fs))) (hB : ∀ h1, B h1 → h1.2 223 = some (.inl (4, 1, .inr (.inl f)))) (ho : (∃ v, o = .inl (some (.int v))) ∨ (o = .inr "java/lang/IllegalArgumentException") ∨ (o = .inr "java/lang/IllegalStateException")) (sp : q_Spec g mX10_run dd mc' ms' [.ref 100] h (q_chg o B)) (hd : dd + 1 ≤ d) : q_Spec g mL_run d mc' ms' [.ref 100, .ref 223] h (q_chg (.inl (some (.int (z_cd [("java/lang/IllegalArgumentException", 1), ("java/lang/IllegalStateException", 2)] o)))) (fun h2 => ∃ h1, B h1 ∧ h2 = z_outL o f h1)) := by
  refine q_enterH (by decide +kernel) (by decide) rfl (Nat.le_of_ble_eq_true rfl) (fun hz => ?_)
  change q_W _ _ _ _ _ _ _ _ _ [.ref 100, .ref 223, q_u] [] _
  refine q_aload_n (by first | assumption | omega | decide | (rw [q_R0e]; omega)) dL_run_0 rfl ?_
  refine q_iconst (v := 0) dL_run_1 rfl ?_
  refine q_aload_n (by first | assumption | omega | decide | (rw [q_R0e]; omega)) dL_run_2 rfl ?_
  refine q_invV (mc' := mc') (ms' := ms') (d' := dd) (as := []) dL_run_3 kM_X10_run kL_L_141 kI_X10_run kS_X10_run rfl (kC_X10.1) hr rfl rfl (Nat.le_of_ble_eq_true rfl) hd (by decide) (by omega) (by omega) sp (fun v h1 hQ => ?_) (fun E h1 hQ => ?_)
  · obtain ⟨eo, hQ⟩ := hQ
    rcases ho with ⟨w, rfl⟩ | rfl | rfl
    · cases eo
      change q_W _ _ _ _ _ _ _ _ 6 [.ref 100, .ref 223, q_u] [.int w, .int 0, .ref 223] _
      refine q_i2l dL_run_6 rfl ?_
      refine q_last (f := f) dL_run_7 (hB h1 hQ) (vp_in_nI (n := 0) (N := 1) (by decide) (by decide)) ?_
      refine q_goto 17 dL_run_8 (by decide) ?_
      refine q_iconst (v := 0) dL_run_17 rfl ?_
      exact q_ireturn dL_run_18 rfl rfl (by omega) (by omega) ⟨rfl, h1, hQ, rfl⟩
    · cases eo
    · cases eo
  · obtain ⟨eo, hQ⟩ := hQ
    rcases ho with ⟨w, rfl⟩ | rfl | rfl
    · cases eo
    · cases eo
      refine q_catch (nm := "java/lang/IllegalArgumentException") [] (0, 8, 11, 13) [(0, 8, 14, 15)] rfl rfl (fun z hz9 => absurd hz9 List.not_mem_nil) (by decide) (by decide) kL_L_13 kK_IllegalArgumentException (k := 2) dL_run_11 (by decide) rfl ?_
      change q_W _ _ _ _ _ _ _ _ 12 [.ref 100, .ref 223, q_u] [] _
      refine q_iconst (v := 1) dL_run_12 rfl ?_
      exact q_ireturn dL_run_13 rfl rfl (by omega) (by omega) ⟨rfl, h1, hQ, rfl⟩
    · cases eo
      refine q_catch (nm := "java/lang/IllegalStateException") [(0, 8, 11, 13)] (0, 8, 14, 15) [] rfl rfl (fun z hz9 => by
        simp only [List.mem_cons, List.not_mem_nil, or_false] at hz9
        rcases hz9 with rfl
        · exact Or.inr ⟨by decide, "java/lang/IllegalArgumentException", kL_L_13, by simp [q_nc]⟩) (by decide) (by decide) kL_L_15 kK_IllegalStateException (k := 2) dL_run_14 (by decide) rfl ?_
      change q_W _ _ _ _ _ _ _ _ 15 [.ref 100, .ref 223, q_u] [] _
      refine q_iconst (v := 2) dL_run_15 rfl ?_
      exact q_ireturn dL_run_16 rfl rfl (by omega) (by omega) ⟨rfl, h1, hQ, rfl⟩
set_option maxRecDepth 100000 in
theorem e_L_errorPosition {g : q_G} {h : q_H} {d dd mc' ms' : Nat}  {o : q_O} {B : q_H → Prop} {f : Nat → Int64} {fs : List Value} (hr : h.2 100 = some (.inr (11, fs))) (hB : ∀ h1, B h1 → h1.2 223 = some (.inl (4, 1, .inr (.inl f)))) (ho : (∃ v, o = .inl (some (.int v))) ∨ (o = .inr "java/util/NoSuchElementException")) (sp : q_Spec g mX10_errorPosition dd mc' ms' [.ref 100] h (q_chg o B)) (hd : dd + 1 ≤ d) : q_Spec g mL_errorPosition d mc' ms' [.ref 100, .ref 223] h (q_chg (.inl (some (.int (z_cd [("java/util/NoSuchElementException", 1)] o)))) (fun h2 => ∃ h1, B h1 ∧ h2 = z_outL o f h1)) := by
  refine q_enterH (by decide +kernel) (by decide) rfl (Nat.le_of_ble_eq_true rfl) (fun hz => ?_)
  change q_W _ _ _ _ _ _ _ _ _ [.ref 100, .ref 223, q_u] [] _
  refine q_aload_n (by first | assumption | omega | decide | (rw [q_R0e]; omega)) dL_errorPosition_0 rfl ?_
  refine q_iconst (v := 0) dL_errorPosition_1 rfl ?_
  refine q_aload_n (by first | assumption | omega | decide | (rw [q_R0e]; omega)) dL_errorPosition_2 rfl ?_
  refine q_invV (mc' := mc') (ms' := ms') (d' := dd) (as := []) dL_errorPosition_3 kM_X10_errorPosition kL_L_144 kI_X10_errorPosition kS_X10_errorPosition rfl (kC_X10.1) hr rfl rfl (Nat.le_of_ble_eq_true rfl) hd (by decide) (by omega) (by omega) sp (fun v h1 hQ => ?_) (fun E h1 hQ => ?_)
  · obtain ⟨eo, hQ⟩ := hQ
    rcases ho with ⟨w, rfl⟩ | rfl
    · cases eo
      change q_W _ _ _ _ _ _ _ _ 6 [.ref 100, .ref 223, q_u] [.int w, .int 0, .ref 223] _
      refine q_i2l dL_errorPosition_6 rfl ?_
      refine q_last (f := f) dL_errorPosition_7 (hB h1 hQ) (vp_in_nI (n := 0) (N := 1) (by decide) (by decide)) ?_
      refine q_goto 14 dL_errorPosition_8 (by decide) ?_
      refine q_iconst (v := 0) dL_errorPosition_14 rfl ?_
      exact q_ireturn dL_errorPosition_15 rfl rfl (by omega) (by omega) ⟨rfl, h1, hQ, rfl⟩
    · cases eo
  · obtain ⟨eo, hQ⟩ := hQ
    rcases ho with ⟨w, rfl⟩ | rfl
    · cases eo
    · cases eo
      refine q_catch (nm := "java/util/NoSuchElementException") [] (0, 8, 11, 20) [] rfl rfl (fun z hz9 => absurd hz9 List.not_mem_nil) (by decide) (by decide) kL_L_20 kK_NoSuchElementException (k := 2) dL_errorPosition_11 (by decide) rfl ?_
      change q_W _ _ _ _ _ _ _ _ 12 [.ref 100, .ref 223, q_u] [] _
      refine q_iconst (v := 1) dL_errorPosition_12 rfl ?_
      exact q_ireturn dL_errorPosition_13 rfl rfl (by omega) (by omega) ⟨rfl, h1, hQ, rfl⟩
set_option maxRecDepth 100000 in
theorem e_L_failedCommand {g : q_G} {h : q_H} {d dd mc' ms' : Nat}  {o : q_O} {B : q_H → Prop} {f : Nat → Int64} {fs : List Value} (hr : h.2 100 = some (.inr (11, fs))) (hB : ∀ h1, B h1 → h1.2 223 = some (.inl (4, 1, .inr (.inl f)))) (ho : (∃ v, o = .inl (some (.int v))) ∨ (o = .inr "java/util/NoSuchElementException")) (sp : q_Spec g mX10_failedCommand dd mc' ms' [.ref 100] h (q_chg o B)) (hd : dd + 1 ≤ d) : q_Spec g mL_failedCommand d mc' ms' [.ref 100, .ref 223] h (q_chg (.inl (some (.int (z_cd [("java/util/NoSuchElementException", 1)] o)))) (fun h2 => ∃ h1, B h1 ∧ h2 = z_outL o f h1)) := by
  refine q_enterH (by decide +kernel) (by decide) rfl (Nat.le_of_ble_eq_true rfl) (fun hz => ?_)
  change q_W _ _ _ _ _ _ _ _ _ [.ref 100, .ref 223, q_u] [] _
  refine q_aload_n (by first | assumption | omega | decide | (rw [q_R0e]; omega)) dL_failedCommand_0 rfl ?_
  refine q_iconst (v := 0) dL_failedCommand_1 rfl ?_
  refine q_aload_n (by first | assumption | omega | decide | (rw [q_R0e]; omega)) dL_failedCommand_2 rfl ?_
  refine q_invV (mc' := mc') (ms' := ms') (d' := dd) (as := []) dL_failedCommand_3 kM_X10_failedCommand kL_L_147 kI_X10_failedCommand kS_X10_failedCommand rfl (kC_X10.1) hr rfl rfl (Nat.le_of_ble_eq_true rfl) hd (by decide) (by omega) (by omega) sp (fun v h1 hQ => ?_) (fun E h1 hQ => ?_)
  · obtain ⟨eo, hQ⟩ := hQ
    rcases ho with ⟨w, rfl⟩ | rfl
    · cases eo
      change q_W _ _ _ _ _ _ _ _ 6 [.ref 100, .ref 223, q_u] [.int w, .int 0, .ref 223] _
      refine q_i2l dL_failedCommand_6 rfl ?_
      refine q_last (f := f) dL_failedCommand_7 (hB h1 hQ) (vp_in_nI (n := 0) (N := 1) (by decide) (by decide)) ?_
      refine q_goto 14 dL_failedCommand_8 (by decide) ?_
      refine q_iconst (v := 0) dL_failedCommand_14 rfl ?_
      exact q_ireturn dL_failedCommand_15 rfl rfl (by omega) (by omega) ⟨rfl, h1, hQ, rfl⟩
    · cases eo
  · obtain ⟨eo, hQ⟩ := hQ
    rcases ho with ⟨w, rfl⟩ | rfl
    · cases eo
    · cases eo
      refine q_catch (nm := "java/util/NoSuchElementException") [] (0, 8, 11, 20) [] rfl rfl (fun z hz9 => absurd hz9 List.not_mem_nil) (by decide) (by decide) kL_L_20 kK_NoSuchElementException (k := 2) dL_failedCommand_11 (by decide) rfl ?_
      change q_W _ _ _ _ _ _ _ _ 12 [.ref 100, .ref 223, q_u] [] _
      refine q_iconst (v := 1) dL_failedCommand_12 rfl ?_
      exact q_ireturn dL_failedCommand_13 rfl rfl (by omega) (by omega) ⟨rfl, h1, hQ, rfl⟩
set_option maxRecDepth 100000 in
theorem e_L_undo {g : q_G} {h : q_H} {d dd mc' ms' : Nat}  {o : q_O} {B : q_H → Prop} {f : Nat → Int64} {fs : List Value} (hr : h.2 100 = some (.inr (11, fs))) (hB : ∀ h1, B h1 → h1.2 223 = some (.inl (4, 1, .inr (.inl f)))) (ho : (∃ v, o = .inl (some (.int v))) ∨ (o = .inr "java/lang/IllegalStateException")) (sp : q_Spec g mX10_undo dd mc' ms' [.ref 100] h (q_chg o B)) (hd : dd + 1 ≤ d) : q_Spec g mL_undo d mc' ms' [.ref 100, .ref 223] h (q_chg (.inl (some (.int (z_cd [("java/lang/IllegalStateException", 1)] o)))) (fun h2 => ∃ h1, B h1 ∧ h2 = z_outL o f h1)) := by
  refine q_enterH (by decide +kernel) (by decide) rfl (Nat.le_of_ble_eq_true rfl) (fun hz => ?_)
  change q_W _ _ _ _ _ _ _ _ _ [.ref 100, .ref 223, q_u] [] _
  refine q_aload_n (by first | assumption | omega | decide | (rw [q_R0e]; omega)) dL_undo_0 rfl ?_
  refine q_iconst (v := 0) dL_undo_1 rfl ?_
  refine q_aload_n (by first | assumption | omega | decide | (rw [q_R0e]; omega)) dL_undo_2 rfl ?_
  refine q_invV (mc' := mc') (ms' := ms') (d' := dd) (as := []) dL_undo_3 kM_X10_undo kL_L_150 kI_X10_undo kS_X10_undo rfl (kC_X10.1) hr rfl rfl (Nat.le_of_ble_eq_true rfl) hd (by decide) (by omega) (by omega) sp (fun v h1 hQ => ?_) (fun E h1 hQ => ?_)
  · obtain ⟨eo, hQ⟩ := hQ
    rcases ho with ⟨w, rfl⟩ | rfl
    · cases eo
      change q_W _ _ _ _ _ _ _ _ 6 [.ref 100, .ref 223, q_u] [.int w, .int 0, .ref 223] _
      refine q_i2l dL_undo_6 rfl ?_
      refine q_last (f := f) dL_undo_7 (hB h1 hQ) (vp_in_nI (n := 0) (N := 1) (by decide) (by decide)) ?_
      refine q_goto 14 dL_undo_8 (by decide) ?_
      refine q_iconst (v := 0) dL_undo_14 rfl ?_
      exact q_ireturn dL_undo_15 rfl rfl (by omega) (by omega) ⟨rfl, h1, hQ, rfl⟩
    · cases eo
  · obtain ⟨eo, hQ⟩ := hQ
    rcases ho with ⟨w, rfl⟩ | rfl
    · cases eo
    · cases eo
      refine q_catch (nm := "java/lang/IllegalStateException") [] (0, 8, 11, 15) [] rfl rfl (fun z hz9 => absurd hz9 List.not_mem_nil) (by decide) (by decide) kL_L_15 kK_IllegalStateException (k := 2) dL_undo_11 (by decide) rfl ?_
      change q_W _ _ _ _ _ _ _ _ 12 [.ref 100, .ref 223, q_u] [] _
      refine q_iconst (v := 1) dL_undo_12 rfl ?_
      exact q_ireturn dL_undo_13 rfl rfl (by omega) (by omega) ⟨rfl, h1, hQ, rfl⟩
set_option maxRecDepth 100000 in
theorem e_L_restore {g : q_G} {h : q_H} {d dd mc' ms' : Nat}  {o : q_O} {B : q_H → Prop} {f : Nat → Int64} {fs : List Value} (hr : h.2 100 = some (.inr (11, fs))) (hB : ∀ h1, B h1 → h1.2 223 = some (.inl (4, 1, .inr (.inl f)))) (ho : (∃ v, o = .inl (some (.int v))) ∨ (o = .inr "java/lang/IllegalStateException")) (sp : q_Spec g mX10_restore dd mc' ms' [.ref 100] h (q_chg o B)) (hd : dd + 1 ≤ d) : q_Spec g mL_restore d mc' ms' [.ref 100, .ref 223] h (q_chg (.inl (some (.int (z_cd [("java/lang/IllegalStateException", 1)] o)))) (fun h2 => ∃ h1, B h1 ∧ h2 = z_outL o f h1)) := by
  refine q_enterH (by decide +kernel) (by decide) rfl (Nat.le_of_ble_eq_true rfl) (fun hz => ?_)
  change q_W _ _ _ _ _ _ _ _ _ [.ref 100, .ref 223, q_u] [] _
  refine q_aload_n (by first | assumption | omega | decide | (rw [q_R0e]; omega)) dL_restore_0 rfl ?_
  refine q_iconst (v := 0) dL_restore_1 rfl ?_
  refine q_aload_n (by first | assumption | omega | decide | (rw [q_R0e]; omega)) dL_restore_2 rfl ?_
  refine q_invV (mc' := mc') (ms' := ms') (d' := dd) (as := []) dL_restore_3 kM_X10_restore kL_L_153 kI_X10_restore kS_X10_restore rfl (kC_X10.1) hr rfl rfl (Nat.le_of_ble_eq_true rfl) hd (by decide) (by omega) (by omega) sp (fun v h1 hQ => ?_) (fun E h1 hQ => ?_)
  · obtain ⟨eo, hQ⟩ := hQ
    rcases ho with ⟨w, rfl⟩ | rfl
    · cases eo
      change q_W _ _ _ _ _ _ _ _ 6 [.ref 100, .ref 223, q_u] [.int w, .int 0, .ref 223] _
      refine q_i2l dL_restore_6 rfl ?_
      refine q_last (f := f) dL_restore_7 (hB h1 hQ) (vp_in_nI (n := 0) (N := 1) (by decide) (by decide)) ?_
      refine q_goto 14 dL_restore_8 (by decide) ?_
      refine q_iconst (v := 0) dL_restore_14 rfl ?_
      exact q_ireturn dL_restore_15 rfl rfl (by omega) (by omega) ⟨rfl, h1, hQ, rfl⟩
    · cases eo
  · obtain ⟨eo, hQ⟩ := hQ
    rcases ho with ⟨w, rfl⟩ | rfl
    · cases eo
    · cases eo
      refine q_catch (nm := "java/lang/IllegalStateException") [] (0, 8, 11, 15) [] rfl rfl (fun z hz9 => absurd hz9 List.not_mem_nil) (by decide) (by decide) kL_L_15 kK_IllegalStateException (k := 2) dL_restore_11 (by decide) rfl ?_
      change q_W _ _ _ _ _ _ _ _ 12 [.ref 100, .ref 223, q_u] [] _
      refine q_iconst (v := 1) dL_restore_12 rfl ?_
      exact q_ireturn dL_restore_13 rfl rfl (by omega) (by omega) ⟨rfl, h1, hQ, rfl⟩