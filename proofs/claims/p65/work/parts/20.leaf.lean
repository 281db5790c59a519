theorem q_mmin {g : q_G} {M : q_M} {d mc ms : Nat} {Q : q_O → q_H → Prop} {kc ks pc : Nat} {ls st : List Value} {h : q_H} {own : String} {idx : Nat} {x y : Int32} (hl : Cond.methodLink own idx Lib.Math.min.name ∈ q_WS) (hst : Cond.static Lib.Math.min.name ∈ q_WS) (hcd : Cond.code Lib.Math.min.name Lib.Math.min.code 2 (some .int) ∈ q_WS) (ho : M.1.cls = own)
    (hd : decode M.2.1 pc = .ok (.invokestatic idx, 3)) (h4 : st.length ≤ 4) (hdd : 1 ≤ d) (hc : kc ≤ mc) (hs : ks ≤ ms) (kk : q_W g M d mc ms Q kc ks (pc + 3) ls (.int (if y < x then y else x) :: st) h) : q_W g M d mc ms Q kc ks pc ls (.int y :: .int x :: st) h := by
  intro p e s m args below meth c H locs mls X hR hS hL
  have hts := q_hWS X.2.2.2.2.1
  have h8 := q_rest2 (g := g) h4
  exact va_mmin X.1 X.2.1 (by rw [hL.1, X.2.2.1]) (own := own) (by rw [← ho]; exact X.2.2.2.1) (hts _ hl) (hts _ hst) (hts _ kJ_J9) (hts _ hcd) hdd (by show _ + 13 ≤ 50 * d; omega) hc hs hd (kk p e s m args below meth c H locs mls X hR hS hL)
theorem q_mmax {g : q_G} {M : q_M} {d mc ms : Nat} {Q : q_O → q_H → Prop} {kc ks pc : Nat} {ls st : List Value} {h : q_H} {own : String} {idx : Nat} {x y : Int32} (hl : Cond.methodLink own idx Lib.Math.max.name ∈ q_WS) (hst : Cond.static Lib.Math.max.name ∈ q_WS) (hcd : Cond.code Lib.Math.max.name Lib.Math.max.code 2 (some .int) ∈ q_WS) (ho : M.1.cls = own)
    (hd : decode M.2.1 pc = .ok (.invokestatic idx, 3)) (h4 : st.length ≤ 4) (hdd : 1 ≤ d) (hc : kc ≤ mc) (hs : ks ≤ ms) (kk : q_W g M d mc ms Q kc ks (pc + 3) ls (.int (if x < y then y else x) :: st) h) : q_W g M d mc ms Q kc ks pc ls (.int y :: .int x :: st) h := by
  intro p e s m args below meth c H locs mls X hR hS hL
  have hts := q_hWS X.2.2.2.2.1
  have h8 := q_rest2 (g := g) h4
  exact va_mmax X.1 X.2.1 (by rw [hL.1, X.2.2.1]) (own := own) (by rw [← ho]; exact X.2.2.2.1) (hts _ hl) (hts _ hst) (hts _ kJ_J9) (hts _ hcd) hdd (by show _ + 13 ≤ 50 * d; omega) hc hs hd (kk p e s m args below meth c H locs mls X hR hS hL)
/-- bit j of m -/
def z_has (m : Int32) (j : Nat) : Bool := !decide ((m >>> (nI j &&& 31)) &&& 1 = 0)
/-- Integer.bitCount, as it counts -/
def z_bc (x : Int32) : Int32 :=
  let a := x - (((x).toUInt32 >>> ((1 : Int32).toUInt32 &&& Int32.toUInt32 31)).toInt32 &&& 1431655765)
  let b := (a &&& 858993459) + (((a).toUInt32 >>> ((2 : Int32).toUInt32 &&& Int32.toUInt32 31)).toInt32 &&& 858993459)
  let c := (b + ((b).toUInt32 >>> ((4 : Int32).toUInt32 &&& Int32.toUInt32 31)).toInt32) &&& 252645135
  let e := c + ((c).toUInt32 >>> ((8 : Int32).toUInt32 &&& Int32.toUInt32 31)).toInt32
  let f := e + ((e).toUInt32 >>> ((16 : Int32).toUInt32 &&& Int32.toUInt32 31)).toInt32
  f &&& 63

set_option maxRecDepth 100000 in
set_option maxHeartbeats 4000000 in
theorem e_has {g : q_G} {h : q_H} {d j : Nat} {x : Int32} : q_Spec g mX10_has d 0 0 [.int x, .int (nI j)] h (q_ret (some (.int (z_b (z_has x j)))) h) := by
  refine q_enter (by decide +kernel) rfl rfl (Nat.le_of_ble_eq_true rfl) (fun hz => ?_)
  change q_W _ _ _ _ _ _ _ _ _ [.int (x), .int (nI j)] [] _
  refine q_iload_n dX10_has_0 rfl ?_
  refine q_iload_n dX10_has_1 rfl ?_
  refine q_ishr dX10_has_2 ?_
  refine q_iconst (v := 1) dX10_has_3 rfl ?_
  refine q_iand dX10_has_4 ?_
  refine q_if_eq 12 dX10_has_5 (by decide) (fun b5 => ?_) (fun b5 => ?_)
  · refine q_iconst (v := 0) dX10_has_12 rfl ?_
    exact q_ireturn dX10_has_13 rfl rfl (Nat.le_refl _) (Nat.le_refl _) ⟨by rw [z_has, decide_eq_true b5]; rfl, rfl⟩
  · refine q_iconst (v := 1) dX10_has_8 rfl ?_
    refine q_goto 13 dX10_has_9 (by decide) ?_
    exact q_ireturn dX10_has_13 rfl rfl (Nat.le_refl _) (Nat.le_refl _) ⟨by rw [z_has, decide_eq_false b5]; rfl, rfl⟩

set_option maxRecDepth 100000 in
set_option maxHeartbeats 4000000 in
theorem e_bitCount {g : q_G} {h : q_H} {d : Nat} {x : Int32} : q_Spec g mJ6_bitCount_0f7a4 d 0 0 [.int x] h (q_ret (some (.int (z_bc x))) h) := by
  refine q_enter (by decide +kernel) rfl rfl (Nat.le_of_ble_eq_true rfl) (fun hz => ?_)
  change q_W _ _ _ _ _ _ _ _ _ [.int (x)] [] _
  refine q_iload_n dJ6_bitCount_0f7a4_0 rfl ?_
  refine q_iload_n dJ6_bitCount_0f7a4_1 rfl ?_
  refine q_iconst (v := 1) dJ6_bitCount_0f7a4_2 rfl ?_
  refine q_iushr dJ6_bitCount_0f7a4_3 rfl ?_
  refine q_ldcw kL_J6_265 rfl dJ6_bitCount_0f7a4_4 ?_
  refine q_iand dJ6_bitCount_0f7a4_7 ?_
  refine q_isub dJ6_bitCount_0f7a4_8 ?_
  refine q_istore_n dJ6_bitCount_0f7a4_9 (by decide) rfl ?_
  change q_W _ _ _ _ _ _ _ _ _ [.int ((x) - ((((x).toUInt32 >>> ((1 : Int32).toUInt32 &&& Int32.toUInt32 31)).toInt32) &&& (1431655765)))] _ _
  refine q_iload_n dJ6_bitCount_0f7a4_10 rfl ?_
  refine q_ldcw kL_J6_266 rfl dJ6_bitCount_0f7a4_11 ?_
  refine q_iand dJ6_bitCount_0f7a4_14 ?_
  refine q_iload_n dJ6_bitCount_0f7a4_15 rfl ?_
  refine q_iconst (v := 2) dJ6_bitCount_0f7a4_16 rfl ?_
  refine q_iushr dJ6_bitCount_0f7a4_17 rfl ?_
  refine q_ldcw kL_J6_266 rfl dJ6_bitCount_0f7a4_18 ?_
  refine q_iand dJ6_bitCount_0f7a4_21 ?_
  refine q_iadd dJ6_bitCount_0f7a4_22 ?_
  refine q_istore_n dJ6_bitCount_0f7a4_23 (by decide) rfl ?_
  change q_W _ _ _ _ _ _ _ _ _ [.int ((((x) - ((((x).toUInt32 >>> ((1 : Int32).toUInt32 &&& Int32.toUInt32 31)).toInt32) &&& (1431655765))) &&& (858993459)) + (((((x) - ((((x).toUInt32 >>> ((1 : Int32).toUInt32 &&& Int32.toUInt32 31)).toInt32) &&& (1431655765))).toUInt32 >>> ((2 : Int32).toUInt32 &&& Int32.toUInt32 31)).toInt32) &&& (858993459)))] _ _
  refine q_iload_n dJ6_bitCount_0f7a4_24 rfl ?_
  refine q_iload_n dJ6_bitCount_0f7a4_25 rfl ?_
  refine q_iconst (v := 4) dJ6_bitCount_0f7a4_26 rfl ?_
  refine q_iushr dJ6_bitCount_0f7a4_27 rfl ?_
  refine q_iadd dJ6_bitCount_0f7a4_28 ?_
  refine q_ldcw kL_J6_267 rfl dJ6_bitCount_0f7a4_29 ?_
  refine q_iand dJ6_bitCount_0f7a4_32 ?_
  refine q_istore_n dJ6_bitCount_0f7a4_33 (by decide) rfl ?_
  change q_W _ _ _ _ _ _ _ _ _ [.int ((((((x) - ((((x).toUInt32 >>> ((1 : Int32).toUInt32 &&& Int32.toUInt32 31)).toInt32) &&& (1431655765))) &&& (858993459)) + (((((x) - ((((x).toUInt32 >>> ((1 : Int32).toUInt32 &&& Int32.toUInt32 31)).toInt32) &&& (1431655765))).toUInt32 >>> ((2 : Int32).toUInt32 &&& Int32.toUInt32 31)).toInt32) &&& (858993459))) + ((((((x) - ((((x).toUInt32 >>> ((1 : Int32).toUInt32 &&& Int32.toUInt32 31)).toInt32) &&& (1431655765))) &&& (858993459)) + (((((x) - ((((x).toUInt32 >>> ((1 : Int32).toUInt32 &&& Int32.toUInt32 31)).toInt32) &&& (1431655765))).toUInt32 >>> ((2 : Int32).toUInt32 &&& Int32.toUInt32 31)).toInt32) &&& (858993459))).toUInt32 >>> ((4 : Int32).toUInt32 &&& Int32.toUInt32 31)).toInt32)) &&& (252645135))] _ _
  refine q_iload_n dJ6_bitCount_0f7a4_34 rfl ?_
  refine q_iload_n dJ6_bitCount_0f7a4_35 rfl ?_
  refine q_bipush (v := 8) dJ6_bitCount_0f7a4_36 rfl ?_
  refine q_iushr dJ6_bitCount_0f7a4_38 rfl ?_
  refine q_iadd dJ6_bitCount_0f7a4_39 ?_
  refine q_istore_n dJ6_bitCount_0f7a4_40 (by decide) rfl ?_
  change q_W _ _ _ _ _ _ _ _ _ [.int (((((((x) - ((((x).toUInt32 >>> ((1 : Int32).toUInt32 &&& Int32.toUInt32 31)).toInt32) &&& (1431655765))) &&& (858993459)) + (((((x) - ((((x).toUInt32 >>> ((1 : Int32).toUInt32 &&& Int32.toUInt32 31)).toInt32) &&& (1431655765))).toUInt32 >>> ((2 : Int32).toUInt32 &&& Int32.toUInt32 31)).toInt32) &&& (858993459))) + ((((((x) - ((((x).toUInt32 >>> ((1 : Int32).toUInt32 &&& Int32.toUInt32 31)).toInt32) &&& (1431655765))) &&& (858993459)) + (((((x) - ((((x).toUInt32 >>> ((1 : Int32).toUInt32 &&& Int32.toUInt32 31)).toInt32) &&& (1431655765))).toUInt32 >>> ((2 : Int32).toUInt32 &&& Int32.toUInt32 31)).toInt32) &&& (858993459))).toUInt32 >>> ((4 : Int32).toUInt32 &&& Int32.toUInt32 31)).toInt32)) &&& (252645135)) + ((((((((x) - ((((x).toUInt32 >>> ((1 : Int32).toUInt32 &&& Int32.toUInt32 31)).toInt32) &&& (1431655765))) &&& (858993459)) + (((((x) - ((((x).toUInt32 >>> ((1 : Int32).toUInt32 &&& Int32.toUInt32 31)).toInt32) &&& (1431655765))).toUInt32 >>> ((2 : Int32).toUInt32 &&& Int32.toUInt32 31)).toInt32) &&& (858993459))) + ((((((x) - ((((x).toUInt32 >>> ((1 : Int32).toUInt32 &&& Int32.toUInt32 31)).toInt32) &&& (1431655765))) &&& (858993459)) + (((((x) - ((((x).toUInt32 >>> ((1 : Int32).toUInt32 &&& Int32.toUInt32 31)).toInt32) &&& (1431655765))).toUInt32 >>> ((2 : Int32).toUInt32 &&& Int32.toUInt32 31)).toInt32) &&& (858993459))).toUInt32 >>> ((4 : Int32).toUInt32 &&& Int32.toUInt32 31)).toInt32)) &&& (252645135)).toUInt32 >>> ((8 : Int32).toUInt32 &&& Int32.toUInt32 31)).toInt32))] _ _
  refine q_iload_n dJ6_bitCount_0f7a4_41 rfl ?_
  refine q_iload_n dJ6_bitCount_0f7a4_42 rfl ?_
  refine q_bipush (v := 16) dJ6_bitCount_0f7a4_43 rfl ?_
  refine q_iushr dJ6_bitCount_0f7a4_45 rfl ?_
  refine q_iadd dJ6_bitCount_0f7a4_46 ?_
  refine q_istore_n dJ6_bitCount_0f7a4_47 (by decide) rfl ?_
  change q_W _ _ _ _ _ _ _ _ _ [.int ((((((((x) - ((((x).toUInt32 >>> ((1 : Int32).toUInt32 &&& Int32.toUInt32 31)).toInt32) &&& (1431655765))) &&& (858993459)) + (((((x) - ((((x).toUInt32 >>> ((1 : Int32).toUInt32 &&& Int32.toUInt32 31)).toInt32) &&& (1431655765))).toUInt32 >>> ((2 : Int32).toUInt32 &&& Int32.toUInt32 31)).toInt32) &&& (858993459))) + ((((((x) - ((((x).toUInt32 >>> ((1 : Int32).toUInt32 &&& Int32.toUInt32 31)).toInt32) &&& (1431655765))) &&& (858993459)) + (((((x) - ((((x).toUInt32 >>> ((1 : Int32).toUInt32 &&& Int32.toUInt32 31)).toInt32) &&& (1431655765))).toUInt32 >>> ((2 : Int32).toUInt32 &&& Int32.toUInt32 31)).toInt32) &&& (858993459))).toUInt32 >>> ((4 : Int32).toUInt32 &&& Int32.toUInt32 31)).toInt32)) &&& (252645135)) + ((((((((x) - ((((x).toUInt32 >>> ((1 : Int32).toUInt32 &&& Int32.toUInt32 31)).toInt32) &&& (1431655765))) &&& (858993459)) + (((((x) - ((((x).toUInt32 >>> ((1 : Int32).toUInt32 &&& Int32.toUInt32 31)).toInt32) &&& (1431655765))).toUInt32 >>> ((2 : Int32).toUInt32 &&& Int32.toUInt32 31)).toInt32) &&& (858993459))) + ((((((x) - ((((x).toUInt32 >>> ((1 : Int32).toUInt32 &&& Int32.toUInt32 31)).toInt32) &&& (1431655765))) &&& (858993459)) + (((((x) - ((((x).toUInt32 >>> ((1 : Int32).toUInt32 &&& Int32.toUInt32 31)).toInt32) &&& (1431655765))).toUInt32 >>> ((2 : Int32).toUInt32 &&& Int32.toUInt32 31)).toInt32) &&& (858993459))).toUInt32 >>> ((4 : Int32).toUInt32 &&& Int32.toUInt32 31)).toInt32)) &&& (252645135)).toUInt32 >>> ((8 : Int32).toUInt32 &&& Int32.toUInt32 31)).toInt32)) + (((((((((x) - ((((x).toUInt32 >>> ((1 : Int32).toUInt32 &&& Int32.toUInt32 31)).toInt32) &&& (1431655765))) &&& (858993459)) + (((((x) - ((((x).toUInt32 >>> ((1 : Int32).toUInt32 &&& Int32.toUInt32 31)).toInt32) &&& (1431655765))).toUInt32 >>> ((2 : Int32).toUInt32 &&& Int32.toUInt32 31)).toInt32) &&& (858993459))) + ((((((x) - ((((x).toUInt32 >>> ((1 : Int32).toUInt32 &&& Int32.toUInt32 31)).toInt32) &&& (1431655765))) &&& (858993459)) + (((((x) - ((((x).toUInt32 >>> ((1 : Int32).toUInt32 &&& Int32.toUInt32 31)).toInt32) &&& (1431655765))).toUInt32 >>> ((2 : Int32).toUInt32 &&& Int32.toUInt32 31)).toInt32) &&& (858993459))).toUInt32 >>> ((4 : Int32).toUInt32 &&& Int32.toUInt32 31)).toInt32)) &&& (252645135)) + ((((((((x) - ((((x).toUInt32 >>> ((1 : Int32).toUInt32 &&& Int32.toUInt32 31)).toInt32) &&& (1431655765))) &&& (858993459)) + (((((x) - ((((x).toUInt32 >>> ((1 : Int32).toUInt32 &&& Int32.toUInt32 31)).toInt32) &&& (1431655765))).toUInt32 >>> ((2 : Int32).toUInt32 &&& Int32.toUInt32 31)).toInt32) &&& (858993459))) + ((((((x) - ((((x).toUInt32 >>> ((1 : Int32).toUInt32 &&& Int32.toUInt32 31)).toInt32) &&& (1431655765))) &&& (858993459)) + (((((x) - ((((x).toUInt32 >>> ((1 : Int32).toUInt32 &&& Int32.toUInt32 31)).toInt32) &&& (1431655765))).toUInt32 >>> ((2 : Int32).toUInt32 &&& Int32.toUInt32 31)).toInt32) &&& (858993459))).toUInt32 >>> ((4 : Int32).toUInt32 &&& Int32.toUInt32 31)).toInt32)) &&& (252645135)).toUInt32 >>> ((8 : Int32).toUInt32 &&& Int32.toUInt32 31)).toInt32)).toUInt32 >>> ((16 : Int32).toUInt32 &&& Int32.toUInt32 31)).toInt32))] _ _
  refine q_iload_n dJ6_bitCount_0f7a4_48 rfl ?_
  refine q_bipush (v := 63) dJ6_bitCount_0f7a4_49 rfl ?_
  refine q_iand dJ6_bitCount_0f7a4_51 ?_
  exact q_ireturn dJ6_bitCount_0f7a4_52 rfl rfl (Nat.le_refl _) (Nat.le_refl _) ⟨rfl, rfl⟩
