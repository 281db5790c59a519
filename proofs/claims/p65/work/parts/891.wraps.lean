/-- what a wrapper answers: the call's number, or the one that stands for the exception's class -/
def z_cd (cs : List (String × Int32)) : q_O → Int32
  | .inl (some (.int v)) => v
  | .inl _ => 0
  | .inr E => (cs.lookup E).getD 0
set_option maxRecDepth 100000 in
theorem e_L_attackerAt {g : q_G} {h : q_H} {d dd mc' ms' : Nat} {xa : Int32} {xc : Int32} {o : q_O} {B : q_H → Prop} {fs : List Value} (hr : h.2 100 = some (.inr (11, fs))) (ho : (∃ v, o = .inl (some (.int v))) ∨ (o = .inr "java/util/NoSuchElementException") ∨ (o = .inr "java/lang/IndexOutOfBoundsException")) (hd : dd + 1 ≤ d) (sp : q_Spec g mX10_attackerAt dd mc' ms' [.ref 100, .int xa, .int xc] h (q_chg o B)) : q_Spec g mL_attackerAt d mc' ms' [.ref 100, .int xa, .int xc] h (q_chg (.inl (some (.int (z_cd [("java/util/NoSuchElementException", -30000), ("java/lang/IndexOutOfBoundsException", -25000)] o)))) B) := by
  refine q_enterH (by decide +kernel) (by decide) rfl (Nat.le_of_ble_eq_true rfl) (fun hz => ?_)
  change q_W _ _ _ _ _ _ _ _ _ [.ref 100, .int xa, .int xc, q_u] [] _
  refine q_aload_n (by first | assumption | omega | decide | (rw [q_R0e]; omega)) dL_attackerAt_0 rfl ?_
  refine q_iload_n dL_attackerAt_1 rfl ?_
  refine q_iload_n dL_attackerAt_2 rfl ?_
  refine q_invV (mc' := mc') (ms' := ms') (d' := dd) (as := [.int xa, .int xc]) dL_attackerAt_3 kM_X10_attackerAt kL_L_58 kI_X10_attackerAt kS_X10_attackerAt rfl (kC_X10.1) hr rfl rfl (Nat.le_of_ble_eq_true rfl) hd (by decide) (by omega) (by omega) sp (fun v h1 hQ => ?_) (fun E h1 hQ => ?_)
  · obtain ⟨eo, hQ⟩ := hQ
    rcases ho with ⟨w, rfl⟩ | rfl | rfl
    · cases eo
      change q_W _ _ _ _ _ _ _ _ 6 [.ref 100, .int xa, .int xc, q_u] [.int w] _
      exact q_ireturn dL_attackerAt_6 rfl rfl (by omega) (by omega) ⟨rfl, hQ⟩
    · cases eo
    · cases eo
  · obtain ⟨eo, hQ⟩ := hQ
    rcases ho with ⟨w, rfl⟩ | rfl | rfl
    · cases eo
    · cases eo
      refine q_catch (nm := "java/util/NoSuchElementException") [] (0, 6, 7, 26) [(0, 6, 12, 61)] rfl rfl (fun z hz9 => absurd hz9 List.not_mem_nil) (by decide) (by decide) kL_L_26 kK_NoSuchElementException (k := 3) dL_attackerAt_7 (by decide) rfl ?_
      change q_W _ _ _ _ _ _ _ _ 8 [.ref 100, .int xa, .int xc, q_u] [] _
      refine q_sipush (v := -30000) dL_attackerAt_8 rfl ?_
      exact q_ireturn dL_attackerAt_11 rfl rfl (by omega) (by omega) ⟨rfl, hQ⟩
    · cases eo
      refine q_catch (nm := "java/lang/IndexOutOfBoundsException") [(0, 6, 7, 26)] (0, 6, 12, 61) [] rfl rfl (fun z hz9 => by
        simp only [List.mem_cons, List.not_mem_nil, or_false] at hz9
        rcases hz9 with rfl
        · exact Or.inr ⟨by decide, "java/util/NoSuchElementException", kL_L_26, by simp [q_nc]⟩) (by decide) (by decide) kL_L_61 kK_IndexOutOfBoundsException (k := 3) dL_attackerAt_12 (by decide) rfl ?_
      change q_W _ _ _ _ _ _ _ _ 13 [.ref 100, .int xa, .int xc, q_u] [] _
      refine q_sipush (v := -25000) dL_attackerAt_13 rfl ?_
      exact q_ireturn dL_attackerAt_16 rfl rfl (by omega) (by omega) ⟨rfl, hQ⟩
set_option maxRecDepth 100000 in
theorem e_L_roundOf {g : q_G} {h : q_H} {d dd mc' ms' : Nat} {xa : Int32} {o : q_O} {B : q_H → Prop} {fs : List Value} (hr : h.2 100 = some (.inr (11, fs))) (ho : (∃ v, o = .inl (some (.int v))) ∨ (o = .inr "java/util/NoSuchElementException")) (hd : dd + 1 ≤ d) (sp : q_Spec g mX10_roundOf dd mc' ms' [.ref 100, .int xa] h (q_chg o B)) : q_Spec g mL_roundOf d mc' ms' [.ref 100, .int xa] h (q_chg (.inl (some (.int (z_cd [("java/util/NoSuchElementException", -30000)] o)))) B) := by
  refine q_enterH (by decide +kernel) (by decide) rfl (Nat.le_of_ble_eq_true rfl) (fun hz => ?_)
  change q_W _ _ _ _ _ _ _ _ _ [.ref 100, .int xa, q_u] [] _
  refine q_aload_n (by first | assumption | omega | decide | (rw [q_R0e]; omega)) dL_roundOf_0 rfl ?_
  refine q_iload_n dL_roundOf_1 rfl ?_
  refine q_invV (mc' := mc') (ms' := ms') (d' := dd) (as := [.int xa]) dL_roundOf_2 kM_X10_roundOf kL_L_63 kI_X10_roundOf kS_X10_roundOf rfl (kC_X10.1) hr rfl rfl (Nat.le_of_ble_eq_true rfl) hd (by decide) (by omega) (by omega) sp (fun v h1 hQ => ?_) (fun E h1 hQ => ?_)
  · obtain ⟨eo, hQ⟩ := hQ
    rcases ho with ⟨w, rfl⟩ | rfl
    · cases eo
      change q_W _ _ _ _ _ _ _ _ 5 [.ref 100, .int xa, q_u] [.int w] _
      exact q_ireturn dL_roundOf_5 rfl rfl (by omega) (by omega) ⟨rfl, hQ⟩
    · cases eo
  · obtain ⟨eo, hQ⟩ := hQ
    rcases ho with ⟨w, rfl⟩ | rfl
    · cases eo
    · cases eo
      refine q_catch (nm := "java/util/NoSuchElementException") [] (0, 5, 6, 26) [] rfl rfl (fun z hz9 => absurd hz9 List.not_mem_nil) (by decide) (by decide) kL_L_26 kK_NoSuchElementException (k := 2) dL_roundOf_6 (by decide) rfl ?_
      change q_W _ _ _ _ _ _ _ _ 7 [.ref 100, .int xa, q_u] [] _
      refine q_sipush (v := -30000) dL_roundOf_7 rfl ?_
      exact q_ireturn dL_roundOf_10 rfl rfl (by omega) (by omega) ⟨rfl, hQ⟩
set_option maxRecDepth 100000 in
theorem e_L_statusAfter {g : q_G} {h : q_H} {d dd mc' ms' : Nat} {xa : Int32} {xc : Int32} {o : q_O} {B : q_H → Prop} {fs : List Value} (hr : h.2 100 = some (.inr (11, fs))) (ho : (∃ v, o = .inl (some (.int v))) ∨ (o = .inr "java/util/NoSuchElementException") ∨ (o = .inr "java/lang/IllegalArgumentException")) (hd : dd + 1 ≤ d) (sp : q_Spec g mX10_statusAfter dd mc' ms' [.ref 100, .int xa, .int xc] h (q_chg o B)) : q_Spec g mL_statusAfter d mc' ms' [.ref 100, .int xa, .int xc] h (q_chg (.inl (some (.int (z_cd [("java/util/NoSuchElementException", -30000), ("java/lang/IllegalArgumentException", -20000)] o)))) B) := by
  refine q_enterH (by decide +kernel) (by decide) rfl (Nat.le_of_ble_eq_true rfl) (fun hz => ?_)
  change q_W _ _ _ _ _ _ _ _ _ [.ref 100, .int xa, .int xc, q_u] [] _
  refine q_aload_n (by first | assumption | omega | decide | (rw [q_R0e]; omega)) dL_statusAfter_0 rfl ?_
  refine q_iload_n dL_statusAfter_1 rfl ?_
  refine q_iload_n dL_statusAfter_2 rfl ?_
  refine q_invV (mc' := mc') (ms' := ms') (d' := dd) (as := [.int xa, .int xc]) dL_statusAfter_3 kM_X10_statusAfter kL_L_66 kI_X10_statusAfter kS_X10_statusAfter rfl (kC_X10.1) hr rfl rfl (Nat.le_of_ble_eq_true rfl) hd (by decide) (by omega) (by omega) sp (fun v h1 hQ => ?_) (fun E h1 hQ => ?_)
  · obtain ⟨eo, hQ⟩ := hQ
    rcases ho with ⟨w, rfl⟩ | rfl | rfl
    · cases eo
      change q_W _ _ _ _ _ _ _ _ 6 [.ref 100, .int xa, .int xc, q_u] [.int w] _
      exact q_ireturn dL_statusAfter_6 rfl rfl (by omega) (by omega) ⟨rfl, hQ⟩
    · cases eo
    · cases eo
  · obtain ⟨eo, hQ⟩ := hQ
    rcases ho with ⟨w, rfl⟩ | rfl | rfl
    · cases eo
    · cases eo
      refine q_catch (nm := "java/util/NoSuchElementException") [] (0, 6, 7, 26) [(0, 6, 12, 19)] rfl rfl (fun z hz9 => absurd hz9 List.not_mem_nil) (by decide) (by decide) kL_L_26 kK_NoSuchElementException (k := 3) dL_statusAfter_7 (by decide) rfl ?_
      change q_W _ _ _ _ _ _ _ _ 8 [.ref 100, .int xa, .int xc, q_u] [] _
      refine q_sipush (v := -30000) dL_statusAfter_8 rfl ?_
      exact q_ireturn dL_statusAfter_11 rfl rfl (by omega) (by omega) ⟨rfl, hQ⟩
    · cases eo
      refine q_catch (nm := "java/lang/IllegalArgumentException") [(0, 6, 7, 26)] (0, 6, 12, 19) [] rfl rfl (fun z hz9 => by
        simp only [List.mem_cons, List.not_mem_nil, or_false] at hz9
        rcases hz9 with rfl
        · exact Or.inr ⟨by decide, "java/util/NoSuchElementException", kL_L_26, by simp [q_nc]⟩) (by decide) (by decide) kL_L_19 kK_IllegalArgumentException (k := 3) dL_statusAfter_12 (by decide) rfl ?_
      change q_W _ _ _ _ _ _ _ _ 13 [.ref 100, .int xa, .int xc, q_u] [] _
      refine q_sipush (v := -20000) dL_statusAfter_13 rfl ?_
      exact q_ireturn dL_statusAfter_16 rfl rfl (by omega) (by omega) ⟨rfl, hQ⟩
set_option maxRecDepth 100000 in
theorem e_L_argumentByStrength {g : q_G} {h : q_H} {d dd mc' ms' : Nat} {xa : Int32} {o : q_O} {B : q_H → Prop} {fs : List Value} (hr : h.2 100 = some (.inr (11, fs))) (ho : (∃ v, o = .inl (some (.int v))) ∨ (o = .inr "java/util/NoSuchElementException")) (hd : dd + 1 ≤ d) (sp : q_Spec g mX10_argumentByStrength dd mc' ms' [.ref 100, .int xa] h (q_chg o B)) : q_Spec g mL_argumentByStrength d mc' ms' [.ref 100, .int xa] h (q_chg (.inl (some (.int (z_cd [("java/util/NoSuchElementException", -30000)] o)))) B) := by
  refine q_enterH (by decide +kernel) (by decide) rfl (Nat.le_of_ble_eq_true rfl) (fun hz => ?_)
  change q_W _ _ _ _ _ _ _ _ _ [.ref 100, .int xa, q_u] [] _
  refine q_aload_n (by first | assumption | omega | decide | (rw [q_R0e]; omega)) dL_argumentByStrength_0 rfl ?_
  refine q_iload_n dL_argumentByStrength_1 rfl ?_
  refine q_invV (mc' := mc') (ms' := ms') (d' := dd) (as := [.int xa]) dL_argumentByStrength_2 kM_X10_argumentByStrength kL_L_70 kI_X10_argumentByStrength kS_X10_argumentByStrength rfl (kC_X10.1) hr rfl rfl (Nat.le_of_ble_eq_true rfl) hd (by decide) (by omega) (by omega) sp (fun v h1 hQ => ?_) (fun E h1 hQ => ?_)
  · obtain ⟨eo, hQ⟩ := hQ
    rcases ho with ⟨w, rfl⟩ | rfl
    · cases eo
      change q_W _ _ _ _ _ _ _ _ 5 [.ref 100, .int xa, q_u] [.int w] _
      exact q_ireturn dL_argumentByStrength_5 rfl rfl (by omega) (by omega) ⟨rfl, hQ⟩
    · cases eo
  · obtain ⟨eo, hQ⟩ := hQ
    rcases ho with ⟨w, rfl⟩ | rfl
    · cases eo
    · cases eo
      refine q_catch (nm := "java/util/NoSuchElementException") [] (0, 5, 6, 26) [] rfl rfl (fun z hz9 => absurd hz9 List.not_mem_nil) (by decide) (by decide) kL_L_26 kK_NoSuchElementException (k := 2) dL_argumentByStrength_6 (by decide) rfl ?_
      change q_W _ _ _ _ _ _ _ _ 7 [.ref 100, .int xa, q_u] [] _
      refine q_sipush (v := -30000) dL_argumentByStrength_7 rfl ?_
      exact q_ireturn dL_argumentByStrength_10 rfl rfl (by omega) (by omega) ⟨rfl, hQ⟩
set_option maxRecDepth 100000 in
theorem e_L_moveAt {g : q_G} {h : q_H} {d dd mc' ms' : Nat} {xa : Int32} {o : q_O} {B : q_H → Prop} {fs : List Value} (hr : h.2 100 = some (.inr (11, fs))) (ho : (∃ v, o = .inl (some (.int v))) ∨ (o = .inr "java/lang/IndexOutOfBoundsException")) (hd : dd + 1 ≤ d) (sp : q_Spec g mX10_moveAt dd mc' ms' [.ref 100, .int xa] h (q_chg o B)) : q_Spec g mL_moveAt d mc' ms' [.ref 100, .int xa] h (q_chg (.inl (some (.int (z_cd [("java/lang/IndexOutOfBoundsException", -25000)] o)))) B) := by
  refine q_enterH (by decide +kernel) (by decide) rfl (Nat.le_of_ble_eq_true rfl) (fun hz => ?_)
  change q_W _ _ _ _ _ _ _ _ _ [.ref 100, .int xa, q_u] [] _
  refine q_aload_n (by first | assumption | omega | decide | (rw [q_R0e]; omega)) dL_moveAt_0 rfl ?_
  refine q_iload_n dL_moveAt_1 rfl ?_
  refine q_invV (mc' := mc') (ms' := ms') (d' := dd) (as := [.int xa]) dL_moveAt_2 kM_X10_moveAt kL_L_73 kI_X10_moveAt kS_X10_moveAt rfl (kC_X10.1) hr rfl rfl (Nat.le_of_ble_eq_true rfl) hd (by decide) (by omega) (by omega) sp (fun v h1 hQ => ?_) (fun E h1 hQ => ?_)
  · obtain ⟨eo, hQ⟩ := hQ
    rcases ho with ⟨w, rfl⟩ | rfl
    · cases eo
      change q_W _ _ _ _ _ _ _ _ 5 [.ref 100, .int xa, q_u] [.int w] _
      exact q_ireturn dL_moveAt_5 rfl rfl (by omega) (by omega) ⟨rfl, hQ⟩
    · cases eo
  · obtain ⟨eo, hQ⟩ := hQ
    rcases ho with ⟨w, rfl⟩ | rfl
    · cases eo
    · cases eo
      refine q_catch (nm := "java/lang/IndexOutOfBoundsException") [] (0, 5, 6, 61) [] rfl rfl (fun z hz9 => absurd hz9 List.not_mem_nil) (by decide) (by decide) kL_L_61 kK_IndexOutOfBoundsException (k := 2) dL_moveAt_6 (by decide) rfl ?_
      change q_W _ _ _ _ _ _ _ _ 7 [.ref 100, .int xa, q_u] [] _
      refine q_sipush (v := -25000) dL_moveAt_7 rfl ?_
      exact q_ireturn dL_moveAt_10 rfl rfl (by omega) (by omega) ⟨rfl, hQ⟩
set_option maxRecDepth 100000 in
theorem e_L_formatDialogue {g : q_G} {h : q_H} {d dd mc' ms' : Nat}  {o : q_O} {B : q_H → Prop} {fs : List Value} (hr : h.2 100 = some (.inr (11, fs))) (ho : (∃ v, o = .inl (some (.int v))) ∨ (o = .inr "java/util/NoSuchElementException")) (hd : dd + 1 ≤ d) (sp : q_Spec g mX10_formatDialogue dd mc' ms' [.ref 100] h (q_chg o B)) : q_Spec g mL_formatDialogue d mc' ms' [.ref 100] h (q_chg (.inl (some (.int (z_cd [("java/util/NoSuchElementException", -30000)] o)))) B) := by
  refine q_enterH (by decide +kernel) (by decide) rfl (Nat.le_of_ble_eq_true rfl) (fun hz => ?_)
  change q_W _ _ _ _ _ _ _ _ _ [.ref 100, q_u] [] _
  refine q_aload_n (by first | assumption | omega | decide | (rw [q_R0e]; omega)) dL_formatDialogue_0 rfl ?_
  refine q_invV (mc' := mc') (ms' := ms') (d' := dd) (as := []) dL_formatDialogue_1 kM_X10_formatDialogue kL_L_76 kI_X10_formatDialogue kS_X10_formatDialogue rfl (kC_X10.1) hr rfl rfl (Nat.le_of_ble_eq_true rfl) hd (by decide) (by omega) (by omega) sp (fun v h1 hQ => ?_) (fun E h1 hQ => ?_)
  · obtain ⟨eo, hQ⟩ := hQ
    rcases ho with ⟨w, rfl⟩ | rfl
    · cases eo
      change q_W _ _ _ _ _ _ _ _ 4 [.ref 100, q_u] [.int w] _
      exact q_ireturn dL_formatDialogue_4 rfl rfl (by omega) (by omega) ⟨rfl, hQ⟩
    · cases eo
  · obtain ⟨eo, hQ⟩ := hQ
    rcases ho with ⟨w, rfl⟩ | rfl
    · cases eo
    · cases eo
      refine q_catch (nm := "java/util/NoSuchElementException") [] (0, 4, 5, 26) [] rfl rfl (fun z hz9 => absurd hz9 List.not_mem_nil) (by decide) (by decide) kL_L_26 kK_NoSuchElementException (k := 1) dL_formatDialogue_5 (by decide) rfl ?_
      change q_W _ _ _ _ _ _ _ _ 6 [.ref 100, q_u] [] _
      refine q_sipush (v := -30000) dL_formatDialogue_6 rfl ?_
      exact q_ireturn dL_formatDialogue_9 rfl rfl (by omega) (by omega) ⟨rfl, hQ⟩
set_option maxRecDepth 100000 in
theorem e_L_isSuccessful {g : q_G} {h : q_H} {d dd mc' ms' : Nat} {xa : Int32} {xc : Int32} {o : q_O} {B : q_H → Prop} {fs : List Value} (hr : h.2 100 = some (.inr (11, fs))) (ho : (∃ v, o = .inl (some (.int (z_b v)))) ∨ (o = .inr "java/util/NoSuchElementException")) (hd : dd + 1 ≤ d) (sp : q_Spec g mX10_isSuccessful dd mc' ms' [.ref 100, .int xa, .int xc] h (q_chg o B)) : q_Spec g mL_isSuccessful d mc' ms' [.ref 100, .int xa, .int xc] h (q_chg (.inl (some (.int (z_cd [("java/util/NoSuchElementException", -30000)] o)))) B) := by
  refine q_enterH (by decide +kernel) (by decide) rfl (Nat.le_of_ble_eq_true rfl) (fun hz => ?_)
  change q_W _ _ _ _ _ _ _ _ _ [.ref 100, .int xa, .int xc, q_u] [] _
  refine q_aload_n (by first | assumption | omega | decide | (rw [q_R0e]; omega)) dL_isSuccessful_0 rfl ?_
  refine q_iload_n dL_isSuccessful_1 rfl ?_
  refine q_iload_n dL_isSuccessful_2 rfl ?_
  refine q_invV (mc' := mc') (ms' := ms') (d' := dd) (as := [.int xa, .int xc]) dL_isSuccessful_3 kM_X10_isSuccessful kL_L_79 kI_X10_isSuccessful kS_X10_isSuccessful rfl (kC_X10.1) hr rfl rfl (Nat.le_of_ble_eq_true rfl) hd (by decide) (by omega) (by omega) sp (fun v h1 hQ => ?_) (fun E h1 hQ => ?_)
  · obtain ⟨eo, hQ⟩ := hQ
    rcases ho with ⟨w, rfl⟩ | rfl
    · cases eo
      change q_W _ _ _ _ _ _ _ _ 6 [.ref 100, .int xa, .int xc, q_u] [.int (z_b w)] _
      cases w with
      | false =>
        refine q_if_eq 13 dL_isSuccessful_6 (by decide) (fun b => ?_) (fun b => absurd rfl b)
        refine q_iconst (v := 0) dL_isSuccessful_13 rfl ?_
        exact q_ireturn dL_isSuccessful_14 rfl rfl (by omega) (by omega) ⟨rfl, hQ⟩
      | true =>
        refine q_if_eq 13 dL_isSuccessful_6 (by decide) (fun b => absurd b (by decide)) (fun b => ?_)
        refine q_iconst (v := 1) dL_isSuccessful_9 rfl ?_
        refine q_goto 14 dL_isSuccessful_10 (by decide) ?_
        exact q_ireturn dL_isSuccessful_14 rfl rfl (by omega) (by omega) ⟨rfl, hQ⟩
    · cases eo
  · obtain ⟨eo, hQ⟩ := hQ
    rcases ho with ⟨w, rfl⟩ | rfl
    · cases eo
    · cases eo
      refine q_catch (nm := "java/util/NoSuchElementException") [] (0, 14, 15, 26) [] rfl rfl (fun z hz9 => absurd hz9 List.not_mem_nil) (by decide) (by decide) kL_L_26 kK_NoSuchElementException (k := 3) dL_isSuccessful_15 (by decide) rfl ?_
      change q_W _ _ _ _ _ _ _ _ 16 [.ref 100, .int xa, .int xc, q_u] [] _
      refine q_sipush (v := -30000) dL_isSuccessful_16 rfl ?_
      exact q_ireturn dL_isSuccessful_19 rfl rfl (by omega) (by omega) ⟨rfl, hQ⟩
set_option maxRecDepth 100000 in
theorem e_L_addArgument {g : q_G} {h : q_H} {d dd mc' ms' : Nat} {xa : Int32} {o : q_O} {B : q_H → Prop} {fs : List Value} (hr : h.2 100 = some (.inr (11, fs))) (ho : (∃ v, o = .inl (some (.int v))) ∨ (o = .inr "java/lang/IllegalArgumentException") ∨ (o = .inr "java/lang/IllegalStateException")) (hd : dd + 1 ≤ d) (sp : q_Spec g mX10_addArgument dd mc' ms' [.ref 100, .int xa] h (q_chg o B)) : q_Spec g mL_addArgument d mc' ms' [.ref 100, .int xa] h (q_chg (.inl (some (.int (z_cd [("java/lang/IllegalArgumentException", -20000), ("java/lang/IllegalStateException", -10000)] o)))) B) := by
  refine q_enterH (by decide +kernel) (by decide) rfl (Nat.le_of_ble_eq_true rfl) (fun hz => ?_)
  change q_W _ _ _ _ _ _ _ _ _ [.ref 100, .int xa, q_u] [] _
  refine q_aload_n (by first | assumption | omega | decide | (rw [q_R0e]; omega)) dL_addArgument_0 rfl ?_
  refine q_iload_n dL_addArgument_1 rfl ?_
  refine q_invV (mc' := mc') (ms' := ms') (d' := dd) (as := [.int xa]) dL_addArgument_2 kM_X10_addArgument kL_L_13 kI_X10_addArgument kS_X10_addArgument rfl (kC_X10.1) hr rfl rfl (Nat.le_of_ble_eq_true rfl) hd (by decide) (by omega) (by omega) sp (fun v h1 hQ => ?_) (fun E h1 hQ => ?_)
  · obtain ⟨eo, hQ⟩ := hQ
    rcases ho with ⟨w, rfl⟩ | rfl | rfl
    · cases eo
      change q_W _ _ _ _ _ _ _ _ 5 [.ref 100, .int xa, q_u] [.int w] _
      exact q_ireturn dL_addArgument_5 rfl rfl (by omega) (by omega) ⟨rfl, hQ⟩
    · cases eo
    · cases eo
  · obtain ⟨eo, hQ⟩ := hQ
    rcases ho with ⟨w, rfl⟩ | rfl | rfl
    · cases eo
    · cases eo
      refine q_catch (nm := "java/lang/IllegalArgumentException") [] (0, 5, 6, 19) [(0, 5, 11, 21)] rfl rfl (fun z hz9 => absurd hz9 List.not_mem_nil) (by decide) (by decide) kL_L_19 kK_IllegalArgumentException (k := 2) dL_addArgument_6 (by decide) rfl ?_
      change q_W _ _ _ _ _ _ _ _ 7 [.ref 100, .int xa, q_u] [] _
      refine q_sipush (v := -20000) dL_addArgument_7 rfl ?_
      exact q_ireturn dL_addArgument_10 rfl rfl (by omega) (by omega) ⟨rfl, hQ⟩
    · cases eo
      refine q_catch (nm := "java/lang/IllegalStateException") [(0, 5, 6, 19)] (0, 5, 11, 21) [] rfl rfl (fun z hz9 => by
        simp only [List.mem_cons, List.not_mem_nil, or_false] at hz9
        rcases hz9 with rfl
        · exact Or.inr ⟨by decide, "java/lang/IllegalArgumentException", kL_L_19, by simp [q_nc]⟩) (by decide) (by decide) kL_L_21 kK_IllegalStateException (k := 2) dL_addArgument_11 (by decide) rfl ?_
      change q_W _ _ _ _ _ _ _ _ 12 [.ref 100, .int xa, q_u] [] _
      refine q_sipush (v := -10000) dL_addArgument_12 rfl ?_
      exact q_ireturn dL_addArgument_15 rfl rfl (by omega) (by omega) ⟨rfl, hQ⟩
set_option maxRecDepth 100000 in
theorem e_L_addAttack {g : q_G} {h : q_H} {d dd mc' ms' : Nat} {xa : Int32} {xc : Int32} {o : q_O} {B : q_H → Prop} {fs : List Value} (hr : h.2 100 = some (.inr (11, fs))) (ho : (∃ v, o = .inl (some (.int v))) ∨ (o = .inr "java/util/NoSuchElementException") ∨ (o = .inr "java/lang/IllegalArgumentException") ∨ (o = .inr "java/lang/IllegalStateException")) (hd : dd + 1 ≤ d) (sp : q_Spec g mX10_addAttack dd mc' ms' [.ref 100, .int xa, .int xc] h (q_chg o B)) : q_Spec g mL_addAttack d mc' ms' [.ref 100, .int xa, .int xc] h (q_chg (.inl (some (.int (z_cd [("java/util/NoSuchElementException", -30000), ("java/lang/IllegalArgumentException", -20000), ("java/lang/IllegalStateException", -10000)] o)))) B) := by
  refine q_enterH (by decide +kernel) (by decide) rfl (Nat.le_of_ble_eq_true rfl) (fun hz => ?_)
  change q_W _ _ _ _ _ _ _ _ _ [.ref 100, .int xa, .int xc, q_u] [] _
  refine q_aload_n (by first | assumption | omega | decide | (rw [q_R0e]; omega)) dL_addAttack_0 rfl ?_
  refine q_iload_n dL_addAttack_1 rfl ?_
  refine q_iload_n dL_addAttack_2 rfl ?_
  refine q_invV (mc' := mc') (ms' := ms') (d' := dd) (as := [.int xa, .int xc]) dL_addAttack_3 kM_X10_addAttack kL_L_28 kI_X10_addAttack kS_X10_addAttack rfl (kC_X10.1) hr rfl rfl (Nat.le_of_ble_eq_true rfl) hd (by decide) (by omega) (by omega) sp (fun v h1 hQ => ?_) (fun E h1 hQ => ?_)
  · obtain ⟨eo, hQ⟩ := hQ
    rcases ho with ⟨w, rfl⟩ | rfl | rfl | rfl
    · cases eo
      change q_W _ _ _ _ _ _ _ _ 6 [.ref 100, .int xa, .int xc, q_u] [.int w] _
      exact q_ireturn dL_addAttack_6 rfl rfl (by omega) (by omega) ⟨rfl, hQ⟩
    · cases eo
    · cases eo
    · cases eo
  · obtain ⟨eo, hQ⟩ := hQ
    rcases ho with ⟨w, rfl⟩ | rfl | rfl | rfl
    · cases eo
    · cases eo
      refine q_catch (nm := "java/util/NoSuchElementException") [] (0, 6, 7, 26) [(0, 6, 12, 19), (0, 6, 17, 21)] rfl rfl (fun z hz9 => absurd hz9 List.not_mem_nil) (by decide) (by decide) kL_L_26 kK_NoSuchElementException (k := 3) dL_addAttack_7 (by decide) rfl ?_
      change q_W _ _ _ _ _ _ _ _ 8 [.ref 100, .int xa, .int xc, q_u] [] _
      refine q_sipush (v := -30000) dL_addAttack_8 rfl ?_
      exact q_ireturn dL_addAttack_11 rfl rfl (by omega) (by omega) ⟨rfl, hQ⟩
    · cases eo
      refine q_catch (nm := "java/lang/IllegalArgumentException") [(0, 6, 7, 26)] (0, 6, 12, 19) [(0, 6, 17, 21)] rfl rfl (fun z hz9 => by
        simp only [List.mem_cons, List.not_mem_nil, or_false] at hz9
        rcases hz9 with rfl
        · exact Or.inr ⟨by decide, "java/util/NoSuchElementException", kL_L_26, by simp [q_nc]⟩) (by decide) (by decide) kL_L_19 kK_IllegalArgumentException (k := 3) dL_addAttack_12 (by decide) rfl ?_
      change q_W _ _ _ _ _ _ _ _ 13 [.ref 100, .int xa, .int xc, q_u] [] _
      refine q_sipush (v := -20000) dL_addAttack_13 rfl ?_
      exact q_ireturn dL_addAttack_16 rfl rfl (by omega) (by omega) ⟨rfl, hQ⟩
    · cases eo
      refine q_catch (nm := "java/lang/IllegalStateException") [(0, 6, 7, 26), (0, 6, 12, 19)] (0, 6, 17, 21) [] rfl rfl (fun z hz9 => by
        simp only [List.mem_cons, List.not_mem_nil, or_false] at hz9
        rcases hz9 with rfl | rfl
        · exact Or.inr ⟨by decide, "java/util/NoSuchElementException", kL_L_26, by simp [q_nc]⟩
        · exact Or.inr ⟨by decide, "java/lang/IllegalArgumentException", kL_L_19, by simp [q_nc]⟩) (by decide) (by decide) kL_L_21 kK_IllegalStateException (k := 3) dL_addAttack_17 (by decide) rfl ?_
      change q_W _ _ _ _ _ _ _ _ 18 [.ref 100, .int xa, .int xc, q_u] [] _
      refine q_sipush (v := -10000) dL_addAttack_18 rfl ?_
      exact q_ireturn dL_addAttack_21 rfl rfl (by omega) (by omega) ⟨rfl, hQ⟩
set_option maxRecDepth 100000 in
theorem e_L_removeArgument {g : q_G} {h : q_H} {d dd mc' ms' : Nat} {xa : Int32} {o : q_O} {B : q_H → Prop} {fs : List Value} (hr : h.2 100 = some (.inr (11, fs))) (ho : (∃ v, o = .inl (some (.int v))) ∨ (o = .inr "java/util/NoSuchElementException")) (hd : dd + 1 ≤ d) (sp : q_Spec g mX10_removeArgument dd mc' ms' [.ref 100, .int xa] h (q_chg o B)) : q_Spec g mL_removeArgument d mc' ms' [.ref 100, .int xa] h (q_chg (.inl (some (.int (z_cd [("java/util/NoSuchElementException", -30000)] o)))) B) := by
  refine q_enterH (by decide +kernel) (by decide) rfl (Nat.le_of_ble_eq_true rfl) (fun hz => ?_)
  change q_W _ _ _ _ _ _ _ _ _ [.ref 100, .int xa, q_u] [] _
  refine q_aload_n (by first | assumption | omega | decide | (rw [q_R0e]; omega)) dL_removeArgument_0 rfl ?_
  refine q_iload_n dL_removeArgument_1 rfl ?_
  refine q_invV (mc' := mc') (ms' := ms') (d' := dd) (as := [.int xa]) dL_removeArgument_2 kM_X10_removeArgument kL_L_23 kI_X10_removeArgument kS_X10_removeArgument rfl (kC_X10.1) hr rfl rfl (Nat.le_of_ble_eq_true rfl) hd (by decide) (by omega) (by omega) sp (fun v h1 hQ => ?_) (fun E h1 hQ => ?_)
  · obtain ⟨eo, hQ⟩ := hQ
    rcases ho with ⟨w, rfl⟩ | rfl
    · cases eo
      change q_W _ _ _ _ _ _ _ _ 5 [.ref 100, .int xa, q_u] [.int w] _
      exact q_ireturn dL_removeArgument_5 rfl rfl (by omega) (by omega) ⟨rfl, hQ⟩
    · cases eo
  · obtain ⟨eo, hQ⟩ := hQ
    rcases ho with ⟨w, rfl⟩ | rfl
    · cases eo
    · cases eo
      refine q_catch (nm := "java/util/NoSuchElementException") [] (0, 5, 6, 26) [] rfl rfl (fun z hz9 => absurd hz9 List.not_mem_nil) (by decide) (by decide) kL_L_26 kK_NoSuchElementException (k := 2) dL_removeArgument_6 (by decide) rfl ?_
      change q_W _ _ _ _ _ _ _ _ 7 [.ref 100, .int xa, q_u] [] _
      refine q_sipush (v := -30000) dL_removeArgument_7 rfl ?_
      exact q_ireturn dL_removeArgument_10 rfl rfl (by omega) (by omega) ⟨rfl, hQ⟩
set_option maxRecDepth 100000 in
theorem e_L_removeAttack {g : q_G} {h : q_H} {d dd mc' ms' : Nat} {xa : Int32} {xc : Int32} {o : q_O} {B : q_H → Prop} {fs : List Value} (hr : h.2 100 = some (.inr (11, fs))) (ho : (∃ v, o = .inl (some (.int v))) ∨ (o = .inr "java/util/NoSuchElementException")) (hd : dd + 1 ≤ d) (sp : q_Spec g mX10_removeAttack dd mc' ms' [.ref 100, .int xa, .int xc] h (q_chg o B)) : q_Spec g mL_removeAttack d mc' ms' [.ref 100, .int xa, .int xc] h (q_chg (.inl (some (.int (z_cd [("java/util/NoSuchElementException", -30000)] o)))) B) := by
  refine q_enterH (by decide +kernel) (by decide) rfl (Nat.le_of_ble_eq_true rfl) (fun hz => ?_)
  change q_W _ _ _ _ _ _ _ _ _ [.ref 100, .int xa, .int xc, q_u] [] _
  refine q_aload_n (by first | assumption | omega | decide | (rw [q_R0e]; omega)) dL_removeAttack_0 rfl ?_
  refine q_iload_n dL_removeAttack_1 rfl ?_
  refine q_iload_n dL_removeAttack_2 rfl ?_
  refine q_invV (mc' := mc') (ms' := ms') (d' := dd) (as := [.int xa, .int xc]) dL_removeAttack_3 kM_X10_removeAttack kL_L_32 kI_X10_removeAttack kS_X10_removeAttack rfl (kC_X10.1) hr rfl rfl (Nat.le_of_ble_eq_true rfl) hd (by decide) (by omega) (by omega) sp (fun v h1 hQ => ?_) (fun E h1 hQ => ?_)
  · obtain ⟨eo, hQ⟩ := hQ
    rcases ho with ⟨w, rfl⟩ | rfl
    · cases eo
      change q_W _ _ _ _ _ _ _ _ 6 [.ref 100, .int xa, .int xc, q_u] [.int w] _
      exact q_ireturn dL_removeAttack_6 rfl rfl (by omega) (by omega) ⟨rfl, hQ⟩
    · cases eo
  · obtain ⟨eo, hQ⟩ := hQ
    rcases ho with ⟨w, rfl⟩ | rfl
    · cases eo
    · cases eo
      refine q_catch (nm := "java/util/NoSuchElementException") [] (0, 6, 7, 26) [] rfl rfl (fun z hz9 => absurd hz9 List.not_mem_nil) (by decide) (by decide) kL_L_26 kK_NoSuchElementException (k := 3) dL_removeAttack_7 (by decide) rfl ?_
      change q_W _ _ _ _ _ _ _ _ 8 [.ref 100, .int xa, .int xc, q_u] [] _
      refine q_sipush (v := -30000) dL_removeAttack_8 rfl ?_
      exact q_ireturn dL_removeAttack_11 rfl rfl (by omega) (by omega) ⟨rfl, hQ⟩
set_option maxRecDepth 100000 in
theorem e_L_setWeight {g : q_G} {h : q_H} {d dd mc' ms' : Nat} {xa : Int32} {xc : Int32} {o : q_O} {B : q_H → Prop} {fs : List Value} (hr : h.2 100 = some (.inr (11, fs))) (ho : (∃ v, o = .inl (some (.int v))) ∨ (o = .inr "java/util/NoSuchElementException") ∨ (o = .inr "java/lang/IllegalArgumentException")) (hd : dd + 1 ≤ d) (sp : q_Spec g mX10_setWeight dd mc' ms' [.ref 100, .int xa, .int xc] h (q_chg o B)) : q_Spec g mL_setWeight d mc' ms' [.ref 100, .int xa, .int xc] h (q_chg (.inl (some (.int (z_cd [("java/util/NoSuchElementException", -30000), ("java/lang/IllegalArgumentException", -20000)] o)))) B) := by
  refine q_enterH (by decide +kernel) (by decide) rfl (Nat.le_of_ble_eq_true rfl) (fun hz => ?_)
  change q_W _ _ _ _ _ _ _ _ _ [.ref 100, .int xa, .int xc, q_u] [] _
  refine q_aload_n (by first | assumption | omega | decide | (rw [q_R0e]; omega)) dL_setWeight_0 rfl ?_
  refine q_iload_n dL_setWeight_1 rfl ?_
  refine q_iload_n dL_setWeight_2 rfl ?_
  refine q_invV (mc' := mc') (ms' := ms') (d' := dd) (as := [.int xa, .int xc]) dL_setWeight_3 kM_X10_setWeight kL_L_35 kI_X10_setWeight kS_X10_setWeight rfl (kC_X10.1) hr rfl rfl (Nat.le_of_ble_eq_true rfl) hd (by decide) (by omega) (by omega) sp (fun v h1 hQ => ?_) (fun E h1 hQ => ?_)
  · obtain ⟨eo, hQ⟩ := hQ
    rcases ho with ⟨w, rfl⟩ | rfl | rfl
    · cases eo
      change q_W _ _ _ _ _ _ _ _ 6 [.ref 100, .int xa, .int xc, q_u] [.int w] _
      exact q_ireturn dL_setWeight_6 rfl rfl (by omega) (by omega) ⟨rfl, hQ⟩
    · cases eo
    · cases eo
  · obtain ⟨eo, hQ⟩ := hQ
    rcases ho with ⟨w, rfl⟩ | rfl | rfl
    · cases eo
    · cases eo
      refine q_catch (nm := "java/util/NoSuchElementException") [] (0, 6, 7, 26) [(0, 6, 12, 19)] rfl rfl (fun z hz9 => absurd hz9 List.not_mem_nil) (by decide) (by decide) kL_L_26 kK_NoSuchElementException (k := 3) dL_setWeight_7 (by decide) rfl ?_
      change q_W _ _ _ _ _ _ _ _ 8 [.ref 100, .int xa, .int xc, q_u] [] _
      refine q_sipush (v := -30000) dL_setWeight_8 rfl ?_
      exact q_ireturn dL_setWeight_11 rfl rfl (by omega) (by omega) ⟨rfl, hQ⟩
    · cases eo
      refine q_catch (nm := "java/lang/IllegalArgumentException") [(0, 6, 7, 26)] (0, 6, 12, 19) [] rfl rfl (fun z hz9 => by
        simp only [List.mem_cons, List.not_mem_nil, or_false] at hz9
        rcases hz9 with rfl
        · exact Or.inr ⟨by decide, "java/util/NoSuchElementException", kL_L_26, by simp [q_nc]⟩) (by decide) (by decide) kL_L_19 kK_IllegalArgumentException (k := 3) dL_setWeight_12 (by decide) rfl ?_
      change q_W _ _ _ _ _ _ _ _ 13 [.ref 100, .int xa, .int xc, q_u] [] _
      refine q_sipush (v := -20000) dL_setWeight_13 rfl ?_
      exact q_ireturn dL_setWeight_16 rfl rfl (by omega) (by omega) ⟨rfl, hQ⟩
set_option maxRecDepth 100000 in
theorem e_L_renew {g : q_G} {h : q_H} {d dd mc' ms' : Nat} {xa : Int32} {o : q_O} {B : q_H → Prop} {fs : List Value} (hr : h.2 100 = some (.inr (11, fs))) (ho : (∃ v, o = .inl (some (.int v))) ∨ (o = .inr "java/util/NoSuchElementException")) (hd : dd + 1 ≤ d) (sp : q_Spec g mX10_renew dd mc' ms' [.ref 100, .int xa] h (q_chg o B)) : q_Spec g mL_renew d mc' ms' [.ref 100, .int xa] h (q_chg (.inl (some (.int (z_cd [("java/util/NoSuchElementException", -30000)] o)))) B) := by
  refine q_enterH (by decide +kernel) (by decide) rfl (Nat.le_of_ble_eq_true rfl) (fun hz => ?_)
  change q_W _ _ _ _ _ _ _ _ _ [.ref 100, .int xa, q_u] [] _
  refine q_aload_n (by first | assumption | omega | decide | (rw [q_R0e]; omega)) dL_renew_0 rfl ?_
  refine q_iload_n dL_renew_1 rfl ?_
  refine q_invV (mc' := mc') (ms' := ms') (d' := dd) (as := [.int xa]) dL_renew_2 kM_X10_renew kL_L_38 kI_X10_renew kS_X10_renew rfl (kC_X10.1) hr rfl rfl (Nat.le_of_ble_eq_true rfl) hd (by decide) (by omega) (by omega) sp (fun v h1 hQ => ?_) (fun E h1 hQ => ?_)
  · obtain ⟨eo, hQ⟩ := hQ
    rcases ho with ⟨w, rfl⟩ | rfl
    · cases eo
      change q_W _ _ _ _ _ _ _ _ 5 [.ref 100, .int xa, q_u] [.int w] _
      exact q_ireturn dL_renew_5 rfl rfl (by omega) (by omega) ⟨rfl, hQ⟩
    · cases eo
  · obtain ⟨eo, hQ⟩ := hQ
    rcases ho with ⟨w, rfl⟩ | rfl
    · cases eo
    · cases eo
      refine q_catch (nm := "java/util/NoSuchElementException") [] (0, 5, 6, 26) [] rfl rfl (fun z hz9 => absurd hz9 List.not_mem_nil) (by decide) (by decide) kL_L_26 kK_NoSuchElementException (k := 2) dL_renew_6 (by decide) rfl ?_
      change q_W _ _ _ _ _ _ _ _ 7 [.ref 100, .int xa, q_u] [] _
      refine q_sipush (v := -30000) dL_renew_7 rfl ?_
      exact q_ireturn dL_renew_10 rfl rfl (by omega) (by omega) ⟨rfl, hQ⟩
set_option maxRecDepth 100000 in
theorem e_L_startDialogue {g : q_G} {h : q_H} {d dd mc' ms' : Nat} {xa : Int32} {o : q_O} {B : q_H → Prop} {fs : List Value} (hr : h.2 100 = some (.inr (11, fs))) (ho : (∃ v, o = .inl (some (.int v))) ∨ (o = .inr "java/util/NoSuchElementException") ∨ (o = .inr "java/lang/IllegalStateException")) (hd : dd + 1 ≤ d) (sp : q_Spec g mX10_startDialogue dd mc' ms' [.ref 100, .int xa] h (q_chg o B)) : q_Spec g mL_startDialogue d mc' ms' [.ref 100, .int xa] h (q_chg (.inl (some (.int (z_cd [("java/util/NoSuchElementException", -30000), ("java/lang/IllegalStateException", -10000)] o)))) B) := by
  refine q_enterH (by decide +kernel) (by decide) rfl (Nat.le_of_ble_eq_true rfl) (fun hz => ?_)
  change q_W _ _ _ _ _ _ _ _ _ [.ref 100, .int xa, q_u] [] _
  refine q_aload_n (by first | assumption | omega | decide | (rw [q_R0e]; omega)) dL_startDialogue_0 rfl ?_
  refine q_iload_n dL_startDialogue_1 rfl ?_
  refine q_invV (mc' := mc') (ms' := ms') (d' := dd) (as := [.int xa]) dL_startDialogue_2 kM_X10_startDialogue kL_L_41 kI_X10_startDialogue kS_X10_startDialogue rfl (kC_X10.1) hr rfl rfl (Nat.le_of_ble_eq_true rfl) hd (by decide) (by omega) (by omega) sp (fun v h1 hQ => ?_) (fun E h1 hQ => ?_)
  · obtain ⟨eo, hQ⟩ := hQ
    rcases ho with ⟨w, rfl⟩ | rfl | rfl
    · cases eo
      change q_W _ _ _ _ _ _ _ _ 5 [.ref 100, .int xa, q_u] [.int w] _
      exact q_ireturn dL_startDialogue_5 rfl rfl (by omega) (by omega) ⟨rfl, hQ⟩
    · cases eo
    · cases eo
  · obtain ⟨eo, hQ⟩ := hQ
    rcases ho with ⟨w, rfl⟩ | rfl | rfl
    · cases eo
    · cases eo
      refine q_catch (nm := "java/util/NoSuchElementException") [] (0, 5, 6, 26) [(0, 5, 11, 21)] rfl rfl (fun z hz9 => absurd hz9 List.not_mem_nil) (by decide) (by decide) kL_L_26 kK_NoSuchElementException (k := 2) dL_startDialogue_6 (by decide) rfl ?_
      change q_W _ _ _ _ _ _ _ _ 7 [.ref 100, .int xa, q_u] [] _
      refine q_sipush (v := -30000) dL_startDialogue_7 rfl ?_
      exact q_ireturn dL_startDialogue_10 rfl rfl (by omega) (by omega) ⟨rfl, hQ⟩
    · cases eo
      refine q_catch (nm := "java/lang/IllegalStateException") [(0, 5, 6, 26)] (0, 5, 11, 21) [] rfl rfl (fun z hz9 => by
        simp only [List.mem_cons, List.not_mem_nil, or_false] at hz9
        rcases hz9 with rfl
        · exact Or.inr ⟨by decide, "java/util/NoSuchElementException", kL_L_26, by simp [q_nc]⟩) (by decide) (by decide) kL_L_21 kK_IllegalStateException (k := 2) dL_startDialogue_11 (by decide) rfl ?_
      change q_W _ _ _ _ _ _ _ _ 12 [.ref 100, .int xa, q_u] [] _
      refine q_sipush (v := -10000) dL_startDialogue_12 rfl ?_
      exact q_ireturn dL_startDialogue_15 rfl rfl (by omega) (by omega) ⟨rfl, hQ⟩
set_option maxRecDepth 100000 in
theorem e_L_canMove {g : q_G} {h : q_H} {d dd mc' ms' : Nat} {xa : Int32} {o : q_O} {B : q_H → Prop} {fs : List Value} (hr : h.2 100 = some (.inr (11, fs))) (ho : (∃ v, o = .inl (some (.int (z_b v)))) ∨ (o = .inr "java/util/NoSuchElementException")) (hd : dd + 1 ≤ d) (sp : q_Spec g mX10_canMove dd mc' ms' [.ref 100, .int xa] h (q_chg o B)) : q_Spec g mL_canMove d mc' ms' [.ref 100, .int xa] h (q_chg (.inl (some (.int (z_cd [("java/util/NoSuchElementException", -30000)] o)))) B) := by
  refine q_enterH (by decide +kernel) (by decide) rfl (Nat.le_of_ble_eq_true rfl) (fun hz => ?_)
  change q_W _ _ _ _ _ _ _ _ _ [.ref 100, .int xa, q_u] [] _
  refine q_aload_n (by first | assumption | omega | decide | (rw [q_R0e]; omega)) dL_canMove_0 rfl ?_
  refine q_iload_n dL_canMove_1 rfl ?_
  refine q_invV (mc' := mc') (ms' := ms') (d' := dd) (as := [.int xa]) dL_canMove_2 kM_X10_canMove kL_L_83 kI_X10_canMove kS_X10_canMove rfl (kC_X10.1) hr rfl rfl (Nat.le_of_ble_eq_true rfl) hd (by decide) (by omega) (by omega) sp (fun v h1 hQ => ?_) (fun E h1 hQ => ?_)
  · obtain ⟨eo, hQ⟩ := hQ
    rcases ho with ⟨w, rfl⟩ | rfl
    · cases eo
      change q_W _ _ _ _ _ _ _ _ 5 [.ref 100, .int xa, q_u] [.int (z_b w)] _
      cases w with
      | false =>
        refine q_if_eq 12 dL_canMove_5 (by decide) (fun b => ?_) (fun b => absurd rfl b)
        refine q_iconst (v := 0) dL_canMove_12 rfl ?_
        exact q_ireturn dL_canMove_13 rfl rfl (by omega) (by omega) ⟨rfl, hQ⟩
      | true =>
        refine q_if_eq 12 dL_canMove_5 (by decide) (fun b => absurd b (by decide)) (fun b => ?_)
        refine q_iconst (v := 1) dL_canMove_8 rfl ?_
        refine q_goto 13 dL_canMove_9 (by decide) ?_
        exact q_ireturn dL_canMove_13 rfl rfl (by omega) (by omega) ⟨rfl, hQ⟩
    · cases eo
  · obtain ⟨eo, hQ⟩ := hQ
    rcases ho with ⟨w, rfl⟩ | rfl
    · cases eo
    · cases eo
      refine q_catch (nm := "java/util/NoSuchElementException") [] (0, 13, 14, 26) [] rfl rfl (fun z hz9 => absurd hz9 List.not_mem_nil) (by decide) (by decide) kL_L_26 kK_NoSuchElementException (k := 2) dL_canMove_14 (by decide) rfl ?_
      change q_W _ _ _ _ _ _ _ _ 15 [.ref 100, .int xa, q_u] [] _
      refine q_sipush (v := -30000) dL_canMove_15 rfl ?_
      exact q_ireturn dL_canMove_18 rfl rfl (by omega) (by omega) ⟨rfl, hQ⟩
set_option maxRecDepth 100000 in
theorem e_L_move {g : q_G} {h : q_H} {d dd mc' ms' : Nat} {xa : Int32} {o : q_O} {B : q_H → Prop} {fs : List Value} (hr : h.2 100 = some (.inr (11, fs))) (ho : (∃ v, o = .inl (some (.int v))) ∨ (o = .inr "java/util/NoSuchElementException") ∨ (o = .inr "java/lang/IllegalArgumentException") ∨ (o = .inr "java/lang/IllegalStateException")) (hd : dd + 1 ≤ d) (sp : q_Spec g mX10_move dd mc' ms' [.ref 100, .int xa] h (q_chg o B)) : q_Spec g mL_move d mc' ms' [.ref 100, .int xa] h (q_chg (.inl (some (.int (z_cd [("java/util/NoSuchElementException", -30000), ("java/lang/IllegalArgumentException", -20000), ("java/lang/IllegalStateException", -10000)] o)))) B) := by
  refine q_enterH (by decide +kernel) (by decide) rfl (Nat.le_of_ble_eq_true rfl) (fun hz => ?_)
  change q_W _ _ _ _ _ _ _ _ _ [.ref 100, .int xa, q_u] [] _
  refine q_aload_n (by first | assumption | omega | decide | (rw [q_R0e]; omega)) dL_move_0 rfl ?_
  refine q_iload_n dL_move_1 rfl ?_
  refine q_invV (mc' := mc') (ms' := ms') (d' := dd) (as := [.int xa]) dL_move_2 kM_X10_move kL_L_44 kI_X10_move kS_X10_move rfl (kC_X10.1) hr rfl rfl (Nat.le_of_ble_eq_true rfl) hd (by decide) (by omega) (by omega) sp (fun v h1 hQ => ?_) (fun E h1 hQ => ?_)
  · obtain ⟨eo, hQ⟩ := hQ
    rcases ho with ⟨w, rfl⟩ | rfl | rfl | rfl
    · cases eo
      change q_W _ _ _ _ _ _ _ _ 5 [.ref 100, .int xa, q_u] [.int w] _
      exact q_ireturn dL_move_5 rfl rfl (by omega) (by omega) ⟨rfl, hQ⟩
    · cases eo
    · cases eo
    · cases eo
  · obtain ⟨eo, hQ⟩ := hQ
    rcases ho with ⟨w, rfl⟩ | rfl | rfl | rfl
    · cases eo
    · cases eo
      refine q_catch (nm := "java/util/NoSuchElementException") [] (0, 5, 6, 26) [(0, 5, 11, 19), (0, 5, 16, 21)] rfl rfl (fun z hz9 => absurd hz9 List.not_mem_nil) (by decide) (by decide) kL_L_26 kK_NoSuchElementException (k := 2) dL_move_6 (by decide) rfl ?_
      change q_W _ _ _ _ _ _ _ _ 7 [.ref 100, .int xa, q_u] [] _
      refine q_sipush (v := -30000) dL_move_7 rfl ?_
      exact q_ireturn dL_move_10 rfl rfl (by omega) (by omega) ⟨rfl, hQ⟩
    · cases eo
      refine q_catch (nm := "java/lang/IllegalArgumentException") [(0, 5, 6, 26)] (0, 5, 11, 19) [(0, 5, 16, 21)] rfl rfl (fun z hz9 => by
        simp only [List.mem_cons, List.not_mem_nil, or_false] at hz9
        rcases hz9 with rfl
        · exact Or.inr ⟨by decide, "java/util/NoSuchElementException", kL_L_26, by simp [q_nc]⟩) (by decide) (by decide) kL_L_19 kK_IllegalArgumentException (k := 2) dL_move_11 (by decide) rfl ?_
      change q_W _ _ _ _ _ _ _ _ 12 [.ref 100, .int xa, q_u] [] _
      refine q_sipush (v := -20000) dL_move_12 rfl ?_
      exact q_ireturn dL_move_15 rfl rfl (by omega) (by omega) ⟨rfl, hQ⟩
    · cases eo
      refine q_catch (nm := "java/lang/IllegalStateException") [(0, 5, 6, 26), (0, 5, 11, 19)] (0, 5, 16, 21) [] rfl rfl (fun z hz9 => by
        simp only [List.mem_cons, List.not_mem_nil, or_false] at hz9
        rcases hz9 with rfl | rfl
        · exact Or.inr ⟨by decide, "java/util/NoSuchElementException", kL_L_26, by simp [q_nc]⟩
        · exact Or.inr ⟨by decide, "java/lang/IllegalArgumentException", kL_L_19, by simp [q_nc]⟩) (by decide) (by decide) kL_L_21 kK_IllegalStateException (k := 2) dL_move_16 (by decide) rfl ?_
      change q_W _ _ _ _ _ _ _ _ 17 [.ref 100, .int xa, q_u] [] _
      refine q_sipush (v := -10000) dL_move_17 rfl ?_
      exact q_ireturn dL_move_20 rfl rfl (by omega) (by omega) ⟨rfl, hQ⟩
set_option maxRecDepth 100000 in
theorem e_L_takeBack {g : q_G} {h : q_H} {d dd mc' ms' : Nat}  {o : q_O} {B : q_H → Prop} {fs : List Value} (hr : h.2 100 = some (.inr (11, fs))) (ho : (∃ v, o = .inl (some (.int v))) ∨ (o = .inr "java/util/NoSuchElementException") ∨ (o = .inr "java/lang/IllegalStateException")) (hd : dd + 1 ≤ d) (sp : q_Spec g mX10_takeBack dd mc' ms' [.ref 100] h (q_chg o B)) : q_Spec g mL_takeBack d mc' ms' [.ref 100] h (q_chg (.inl (some (.int (z_cd [("java/util/NoSuchElementException", -30000), ("java/lang/IllegalStateException", -10000)] o)))) B) := by
  refine q_enterH (by decide +kernel) (by decide) rfl (Nat.le_of_ble_eq_true rfl) (fun hz => ?_)
  change q_W _ _ _ _ _ _ _ _ _ [.ref 100, q_u] [] _
  refine q_aload_n (by first | assumption | omega | decide | (rw [q_R0e]; omega)) dL_takeBack_0 rfl ?_
  refine q_invV (mc' := mc') (ms' := ms') (d' := dd) (as := []) dL_takeBack_1 kM_X10_takeBack kL_L_47 kI_X10_takeBack kS_X10_takeBack rfl (kC_X10.1) hr rfl rfl (Nat.le_of_ble_eq_true rfl) hd (by decide) (by omega) (by omega) sp (fun v h1 hQ => ?_) (fun E h1 hQ => ?_)
  · obtain ⟨eo, hQ⟩ := hQ
    rcases ho with ⟨w, rfl⟩ | rfl | rfl
    · cases eo
      change q_W _ _ _ _ _ _ _ _ 4 [.ref 100, q_u] [.int w] _
      exact q_ireturn dL_takeBack_4 rfl rfl (by omega) (by omega) ⟨rfl, hQ⟩
    · cases eo
    · cases eo
  · obtain ⟨eo, hQ⟩ := hQ
    rcases ho with ⟨w, rfl⟩ | rfl | rfl
    · cases eo
    · cases eo
      refine q_catch (nm := "java/util/NoSuchElementException") [] (0, 4, 5, 26) [(0, 4, 10, 21)] rfl rfl (fun z hz9 => absurd hz9 List.not_mem_nil) (by decide) (by decide) kL_L_26 kK_NoSuchElementException (k := 1) dL_takeBack_5 (by decide) rfl ?_
      change q_W _ _ _ _ _ _ _ _ 6 [.ref 100, q_u] [] _
      refine q_sipush (v := -30000) dL_takeBack_6 rfl ?_
      exact q_ireturn dL_takeBack_9 rfl rfl (by omega) (by omega) ⟨rfl, hQ⟩
    · cases eo
      refine q_catch (nm := "java/lang/IllegalStateException") [(0, 4, 5, 26)] (0, 4, 10, 21) [] rfl rfl (fun z hz9 => by
        simp only [List.mem_cons, List.not_mem_nil, or_false] at hz9
        rcases hz9 with rfl
        · exact Or.inr ⟨by decide, "java/util/NoSuchElementException", kL_L_26, by simp [q_nc]⟩) (by decide) (by decide) kL_L_21 kK_IllegalStateException (k := 1) dL_takeBack_10 (by decide) rfl ?_
      change q_W _ _ _ _ _ _ _ _ 11 [.ref 100, q_u] [] _
      refine q_sipush (v := -10000) dL_takeBack_11 rfl ?_
      exact q_ireturn dL_takeBack_14 rfl rfl (by omega) (by omega) ⟨rfl, hQ⟩
set_option maxRecDepth 100000 in
theorem e_L_endDialogue {g : q_G} {h : q_H} {d dd mc' ms' : Nat}  {o : q_O} {B : q_H → Prop} {fs : List Value} (hr : h.2 100 = some (.inr (11, fs))) (ho : (∃ v, o = .inl (some (.int v))) ∨ (o = .inr "java/util/NoSuchElementException")) (hd : dd + 1 ≤ d) (sp : q_Spec g mX10_endDialogue dd mc' ms' [.ref 100] h (q_chg o B)) : q_Spec g mL_endDialogue d mc' ms' [.ref 100] h (q_chg (.inl (some (.int (z_cd [("java/util/NoSuchElementException", -30000)] o)))) B) := by
  refine q_enterH (by decide +kernel) (by decide) rfl (Nat.le_of_ble_eq_true rfl) (fun hz => ?_)
  change q_W _ _ _ _ _ _ _ _ _ [.ref 100, q_u] [] _
  refine q_aload_n (by first | assumption | omega | decide | (rw [q_R0e]; omega)) dL_endDialogue_0 rfl ?_
  refine q_invV (mc' := mc') (ms' := ms') (d' := dd) (as := []) dL_endDialogue_1 kM_X10_endDialogue kL_L_51 kI_X10_endDialogue kS_X10_endDialogue rfl (kC_X10.1) hr rfl rfl (Nat.le_of_ble_eq_true rfl) hd (by decide) (by omega) (by omega) sp (fun v h1 hQ => ?_) (fun E h1 hQ => ?_)
  · obtain ⟨eo, hQ⟩ := hQ
    rcases ho with ⟨w, rfl⟩ | rfl
    · cases eo
      change q_W _ _ _ _ _ _ _ _ 4 [.ref 100, q_u] [.int w] _
      exact q_ireturn dL_endDialogue_4 rfl rfl (by omega) (by omega) ⟨rfl, hQ⟩
    · cases eo
  · obtain ⟨eo, hQ⟩ := hQ
    rcases ho with ⟨w, rfl⟩ | rfl
    · cases eo
    · cases eo
      refine q_catch (nm := "java/util/NoSuchElementException") [] (0, 4, 5, 26) [] rfl rfl (fun z hz9 => absurd hz9 List.not_mem_nil) (by decide) (by decide) kL_L_26 kK_NoSuchElementException (k := 1) dL_endDialogue_5 (by decide) rfl ?_
      change q_W _ _ _ _ _ _ _ _ 6 [.ref 100, q_u] [] _
      refine q_sipush (v := -30000) dL_endDialogue_6 rfl ?_
      exact q_ireturn dL_endDialogue_9 rfl rfl (by omega) (by omega) ⟨rfl, hQ⟩
set_option maxRecDepth 100000 in
theorem e_L_pass {g : q_G} {h : q_H} {d dd mc' ms' : Nat} {xa : Int32} {o : q_O} {B : q_H → Prop} {fs : List Value} (hr : h.2 100 = some (.inr (11, fs))) (ho : (∃ v, o = .inl (some (.int v))) ∨ (o = .inr "java/lang/IllegalArgumentException")) (hd : dd + 1 ≤ d) (sp : q_Spec g mX10_pass dd mc' ms' [.ref 100, .int xa] h (q_chg o B)) : q_Spec g mL_pass d mc' ms' [.ref 100, .int xa] h (q_chg (.inl (some (.int (z_cd [("java/lang/IllegalArgumentException", -20000)] o)))) B) := by
  refine q_enterH (by decide +kernel) (by decide) rfl (Nat.le_of_ble_eq_true rfl) (fun hz => ?_)
  change q_W _ _ _ _ _ _ _ _ _ [.ref 100, .int xa, q_u] [] _
  refine q_aload_n (by first | assumption | omega | decide | (rw [q_R0e]; omega)) dL_pass_0 rfl ?_
  refine q_iload_n dL_pass_1 rfl ?_
  refine q_invV (mc' := mc') (ms' := ms') (d' := dd) (as := [.int xa]) dL_pass_2 kM_X10_pass kL_L_55 kI_X10_pass kS_X10_pass rfl (kC_X10.1) hr rfl rfl (Nat.le_of_ble_eq_true rfl) hd (by decide) (by omega) (by omega) sp (fun v h1 hQ => ?_) (fun E h1 hQ => ?_)
  · obtain ⟨eo, hQ⟩ := hQ
    rcases ho with ⟨w, rfl⟩ | rfl
    · cases eo
      change q_W _ _ _ _ _ _ _ _ 5 [.ref 100, .int xa, q_u] [.int w] _
      exact q_ireturn dL_pass_5 rfl rfl (by omega) (by omega) ⟨rfl, hQ⟩
    · cases eo
  · obtain ⟨eo, hQ⟩ := hQ
    rcases ho with ⟨w, rfl⟩ | rfl
    · cases eo
    · cases eo
      refine q_catch (nm := "java/lang/IllegalArgumentException") [] (0, 5, 6, 19) [] rfl rfl (fun z hz9 => absurd hz9 List.not_mem_nil) (by decide) (by decide) kL_L_19 kK_IllegalArgumentException (k := 2) dL_pass_6 (by decide) rfl ?_
      change q_W _ _ _ _ _ _ _ _ 7 [.ref 100, .int xa, q_u] [] _
      refine q_sipush (v := -20000) dL_pass_7 rfl ?_
      exact q_ireturn dL_pass_10 rfl rfl (by omega) (by omega) ⟨rfl, hQ⟩
