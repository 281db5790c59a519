section PVE
variable {g : q_G} {M : q_M} {d mc ms : Nat} {Q : q_O → q_H → Prop} {kc ks pc : Nat} {ls st : List Value} {h : q_H}
/-- the words of a throw -/
def q_isT (own cls : String) (ik ic : Nat) (Y0 : String) (r0 : List String) (i6 : Nat) (b6 : ByteArray) : Prop :=
  Bundle.fit cls = true ∧ (∀ n ∈ Y0 :: r0, Bundle.fit n = true) ∧ Cond.classLink own ik cls ∈ q_WS ∧ Cond.initialized cls ∈ q_WS ∧
  (∀ w ∈ q_atS own ic cls Y0 r0 i6 b6, w ∈ lw_tbl ∧ (goodWord w = true ∨ w = .castable cls cls ∨ ∃ x, w = .declares x)) ∧
  (∀ w ∈ Cond.classLink own ik cls :: Cond.initialized cls :: q_atS own ic cls Y0 r0 i6 b6, vx_ot w = true) ∧ r0.length ≤ 2 ∧
  decode b6 0 = .ok (.aload_n 0, 1) ∧ decode b6 1 = .ok (.aload_n 1, 1) ∧ decode b6 2 = .ok (.invokespecial i6, 3) ∧ decode b6 5 = .ok (.return_, 1)
theorem q_isT.hat {own cls : String} {ik ic : Nat} {Y0 : String} {r0 : List String} {i6 : Nat} {b6 : ByteArray} {args : Array Value} {s : State} (h : q_isT own cls ik ic Y0 r0 i6 b6) (hts : ∀ w ∈ q_WS, w.before args s = true) (hN : q_N s) : ∀ w ∈ q_atS own ic cls Y0 r0 i6 b6, w.before args s = true := by
  intro w hw
  obtain ⟨h1, h2⟩ := h.2.2.2.2.1 w hw
  rcases h2 with h2 | h2 | ⟨x, h2⟩
  · exact hts w (List.mem_filter.mpr ⟨List.mem_append_left _ h1, h2⟩)
  · subst h2
    exact va_Nw.use rfl (hN.2.2.1 _ _ h1)
  · subst h2
    exact va_Nw.use rfl (hN.2.2.2.2.2.2 _ h1)
theorem q_rest2 (h4 : st.length ≤ 4) : ((st.map (q_tV g)).map fun v => v.category).sum ≤ 8 :=
  Nat.le_trans (q_sum_le _) (by rw [List.length_map]; omega)
/-- throw new E("text") -/
theorem q_throw {own cls text : String} {ik is ic : Nat} {Y0 : String} {r0 : List String} {i6 : Nat} {b6 : ByteArray} (hT : q_isT own cls ik ic Y0 r0 i6 b6) (hstr : Cond.stringRef own is text ∈ lw_tbl) (ho : M.1.cls = own)
    (d0 : decode M.2.1 pc = .ok (.new ik, 3)) (d3 : decode M.2.1 (pc + 3) = .ok (.dup, 1)) (d4 : decode M.2.1 (pc + 4) = .ok (.ldc is, 2)) (d6 : decode M.2.1 (pc + 6) = .ok (.invokespecial ic, 3)) (d9 : decode M.2.1 (pc + 9) = .ok (.athrow, 1))
    (h4 : st.length ≤ 4) (hd : 7 ≤ d) (hmc : kc + 1 ≤ mc) (hms : ks + 6 ≤ ms) (kx : q_X g M d mc ms Q cls (kc + 1) (ks + 6) (pc + 9) ls st (q_skip h)) : q_W g M d mc ms Q kc ks pc ls st h := by
  intro p e s m args below meth c H locs mls X hR hS hL
  have hts := q_hWS X.2.2.2.2.1
  have hK := X.2.2.2.2.2.2.2.1
  obtain ⟨sa, hsa⟩ := hK.2.2.2.2.2.1.2.2.2.2.1 own is text hstr
  have h8 := q_rest2 (g := g) h4
  have hn := hT.2.2.2.2.2.2.1
  obtain ⟨e0, e1, e2, e5⟩ := hT.2.2.2.2.2.2.2
  refine qvx_makeS (Y0 := Y0) (r0 := r0) (ik := ik) (is := is) (ic := ic) (cls := cls) (i6 := i6) (b6 := b6) X.1 X.2.1 hK.2.2.1 e0 e1 e2 e5 (by rw [← ho]; exact X.2.2.2.1) hT.1 hT.2.1 (hts _ hT.2.2.1) (hts _ hT.2.2.2.1) hsa (hT.hat hts hK.2.2.2.2.2.1) hT.2.2.2.2.2.1 hK.2.2.2.1 hK.2.2.2.2.1 hS (by rw [hL.1, X.2.2.1]) d0 d3 d4 d6 (by show (r0.length + 1) + 3 < d; omega) (by show _ ≤ 50 * d; omega) hmc hms ?_
  intro q ce H1 hq hz hk hce hv hcl hS1
  exact vx_athrow X.1 X.2.1 d9 (kx p e s m args below meth c H1 locs mls q ce X (hR.skipped hz hk) hS1 hL hce hv hcl)
theorem q_throwW {own cls text : String} {ik is ic : Nat} {Y0 : String} {r0 : List String} {i6 : Nat} {b6 : ByteArray} (hT : q_isT own cls ik ic Y0 r0 i6 b6) (hstr : Cond.stringRef own is text ∈ lw_tbl) (ho : M.1.cls = own)
    (d0 : decode M.2.1 pc = .ok (.new ik, 3)) (d3 : decode M.2.1 (pc + 3) = .ok (.dup, 1)) (d4 : decode M.2.1 (pc + 4) = .ok (.ldc_w is, 3)) (d6 : decode M.2.1 (pc + 7) = .ok (.invokespecial ic, 3)) (d9 : decode M.2.1 (pc + 10) = .ok (.athrow, 1))
    (h4 : st.length ≤ 4) (hd : 7 ≤ d) (hmc : kc + 1 ≤ mc) (hms : ks + 6 ≤ ms) (kx : q_X g M d mc ms Q cls (kc + 1) (ks + 6) (pc + 10) ls st (q_skip h)) : q_W g M d mc ms Q kc ks pc ls st h := by
  intro p e s m args below meth c H locs mls X hR hS hL
  have hts := q_hWS X.2.2.2.2.1
  have hK := X.2.2.2.2.2.2.2.1
  obtain ⟨sa, hsa⟩ := hK.2.2.2.2.2.1.2.2.2.2.1 own is text hstr
  have h8 := q_rest2 (g := g) h4
  have hn := hT.2.2.2.2.2.2.1
  obtain ⟨e0, e1, e2, e5⟩ := hT.2.2.2.2.2.2.2
  refine qvx_makeSW (Y0 := Y0) (r0 := r0) (ik := ik) (is := is) (ic := ic) (cls := cls) (i6 := i6) (b6 := b6) X.1 X.2.1 hK.2.2.1 e0 e1 e2 e5 (by rw [← ho]; exact X.2.2.2.1) hT.1 hT.2.1 (hts _ hT.2.2.1) (hts _ hT.2.2.2.1) hsa (hT.hat hts hK.2.2.2.2.2.1) hT.2.2.2.2.2.1 hK.2.2.2.1 hK.2.2.2.2.1 hS (by rw [hL.1, X.2.2.1]) d0 d3 d4 d6 (by show (r0.length + 1) + 3 < d; omega) (by show _ ≤ 50 * d; omega) hmc hms ?_
  intro q ce H1 hq hz hk hce hv hcl hS1
  exact vx_athrow X.1 X.2.1 d9 (kx p e s m args below meth c H1 locs mls q ce X (hR.skipped hz hk) hS1 hL hce hv hcl)
/-- the handler hh[i] takes it: it stores the exception away -/
theorem q_catch {E nm own : String} (pre : List (Nat × Nat × Nat × Nat)) (x : Nat × Nat × Nat × Nat) (suf : List (Nat × Nat × Nat × Nat)) (hh : M.2.2.2.2 = pre ++ x :: suf) (ho : M.1.cls = own)
    (hpass : ∀ z ∈ pre, covers ⟨z.1, z.2.1, z.2.2.1, z.2.2.2⟩ pc = false ∨ (z.2.2.2 ≠ 0 ∧ ∃ n : String, Cond.classLink own z.2.2.2 n ∈ q_WS ∧ (E, n) ∈ q_nc)) (hx : covers ⟨x.1, x.2.1, x.2.2.1, x.2.2.2⟩ pc = true) (h0 : x.2.2.2 ≠ 0)
    (hl : Cond.classLink own x.2.2.2 nm ∈ q_WS) (hca : Cond.castable E nm ∈ lw_tbl)
    {k : Fin 4} (hd : decode M.2.1 x.2.2.1 = .ok (.astore_n k, 1)) (hi : (k : Nat) < M.2.2.1) (hok : q_ok1 ls k = true)
    (kk : q_W g M d mc ms Q kc ks (x.2.2.1 + 1) (ls.set k q_u) [] h) : q_X g M d mc ms Q E kc ks pc ls st h := by
  intro p e s m args below meth c H locs mls q9 ce X hR hS hL h9 hv hcl
  have hts := q_hWS X.2.2.2.2.1
  have hN := X.2.2.2.2.2.2.2.1.2.2.2.2.2.1
  refine vx_catch (E := E) (name := nm) (own := own) (by rw [← ho]; exact X.2.2.2.1) (tableOf pre) ⟨x.1, x.2.1, x.2.2.1, x.2.2.2⟩ (tableOf suf) (by rw [X.2.2.2.2.2.2.2.2.1, hh, tableOf, List.map_append]; rfl) ?_ hx h0 (hts _ hl) (va_Nw.use rfl (hN.2.2.1 _ _ hca)) h9 hv hcl ?_
  · intro z hz
    obtain ⟨y, hy, rfl⟩ := List.mem_map.mp hz
    rcases hpass y hy with h1 | ⟨h1, n, h2, h3⟩
    · exact Or.inl h1
    · exact Or.inr ⟨h1, n, hts _ h2, hN.2.2.2.2.2.1 _ h3⟩
  · refine lv_astore_n X.1 X.2.1 hd rfl hL.has hi rfl (fun ls1 h1 => kk p e s m args below meth c H locs ls1 X hR hS ?_)
    refine ⟨h1.1, by rw [List.length_set]; exact hL.2.1, h1.2.1, fun j w hj hu => ?_⟩
    by_cases hji : j = (k : Nat)
    · subst hji
      rw [List.getElem?_set_self (by rw [hL.2.1]; exact hi)] at hj
      exact absurd (Option.some.inj hj).symm hu
    · rw [List.getElem?_set_ne (fun q => hji q.symm)] at hj
      refine h1.2.2 (j, q_tV g w) (List.mem_cons_of_mem _ (List.mem_filter.mpr ⟨q_pairs_mem hj hu, ?_⟩))
      have h1 : (j == (k : Nat)) = false := by simpa using hji
      by_cases h2 : j + 1 = (k : Nat)
      · have hc : ¬ (q_tV g w).category = 2 := by
          rw [← h2] at hok
          simp only [q_ok1, hj] at hok
          cases w with
          | long x => simp at hok
          | double x => simp at hok
          | ref x => simp [q_catref X.2.2.2.2.2.2.2.1.2.2.2.2.2.2.2.2.2.2]
          | _ => simp [q_tV, Value.category]
        simp [h1, hc]
      · have h3 : (j + 1 == (k : Nat)) = false := by simpa using h2
        simp [h1, h3]
/-! statics and old cells -/
theorem q_getstatic {own C n ds : String} {idx : Nat} {v : Value} (hz : (C, n, ds, v) ∈ q_zs) (hlw : Cond.fieldLink own idx C n ds ∈ q_WS) (ho : M.1.cls = own)
    (hd : decode M.2.1 pc = .ok (.getstatic idx, 3)) (kk : q_W g M d mc ms Q kc ks (pc + 3) ls (v :: st) h) : q_W g M d mc ms Q kc ks pc ls st h := by
  intro p e s m args below meth c H locs mls X hR hS hL
  have hts := q_hWS X.2.2.2.2.1
  have hJ := X.2.2.2.2.2.2.2.1.2.2.2.2.2.2
  exact va_gets X.1 X.2.1 (hJ.1 _ hz) hS (by rw [← ho]; exact X.2.2.2.1) (hts _ hlw) (fun _ q => q) hd (kk p e s m args below meth c H locs mls X hR hS hL)
theorem q_getstaticN {own host C n ds : String} {idx : Nat} {v : Value} (hz : (C, n, ds, v) ∈ q_zs) (hlw : Cond.fieldLinkNest own idx C n ds host ∈ lw_tbl) (ho : M.1.cls = own)
    (hd : decode M.2.1 pc = .ok (.getstatic idx, 3)) (kk : q_W g M d mc ms Q kc ks (pc + 3) ls (v :: st) h) : q_W g M d mc ms Q kc ks pc ls st h := by
  intro p e s m args below meth c H locs mls X hR hS hL
  have hK := X.2.2.2.2.2.2.2.1
  exact va_getsN X.1 X.2.1 (hK.2.2.2.2.2.2.1 _ hz) hS (by rw [← ho]; exact X.2.2.2.1) (va_Nw.use rfl (hK.2.2.2.2.2.1.2.1 _ _ _ _ _ _ hlw)) (fun _ q => q) hd (kk p e s m args below meth c H locs mls X hR hS hL)
theorem q_tV_old {g : q_G} {i : Nat} (hi : i < q_R0) : q_tV g (.ref i) = g.2.2.2.2.1 i := by
  show (if i < q_R0 then g.2.2.2.2.1 i else .ref (q_ad g i)) = _
  rw [if_pos hi]
theorem q_taldI {i n : Nat} {f : Nat → Value} {j : Int32} (hi : i < q_R0) (hd : decode M.2.1 pc = .ok (.iaload, 1)) (hc : q_ar g i = some (.int, n, f)) (hin : vp_in j n) (kk : q_W g M d mc ms Q kc ks (pc + 1) ls (f j.toNatClampNeg :: st) h) : q_W g M d mc ms Q kc ks pc ls (.int j :: .ref i :: st) h := by
  intro p e s m args below meth c H locs mls X hR hS hL
  obtain ⟨a, e1, hT⟩ := X.2.2.2.2.2.2.2.1.2.2.2.2.2.2.2.1 i _ _ _ hc
  rw [List.map_cons, List.map_cons, q_tV_old hi, e1]
  exact va_ti X.1 X.2.1 hT hS hin rfl hd (kk p e s m args below meth c H locs mls X hR hS hL)
theorem q_taldB {i n : Nat} {f : Nat → Value} {j : Int32} (hi : i < q_R0) (hd : decode M.2.1 pc = .ok (.baload, 1)) (hc : q_ar g i = some (.byte, n, f)) (hin : vp_in j n) (kk : q_W g M d mc ms Q kc ks (pc + 1) ls (f j.toNatClampNeg :: st) h) : q_W g M d mc ms Q kc ks pc ls (.int j :: .ref i :: st) h := by
  intro p e s m args below meth c H locs mls X hR hS hL
  obtain ⟨a, e1, hT⟩ := X.2.2.2.2.2.2.2.1.2.2.2.2.2.2.2.1 i _ _ _ hc
  rw [List.map_cons, List.map_cons, q_tV_old hi, e1]
  exact va_tb X.1 X.2.1 hT hS hin rfl hd (kk p e s m args below meth c H locs mls X hR hS hL)
theorem q_taldA {i n : Nat} {f : Nat → Value} {j : Int32} {C : String} (hi : i < q_R0) (hd : decode M.2.1 pc = .ok (.aaload, 1)) (hc : q_ar g i = some (.object C, n, f)) (hin : vp_in j n) (kk : q_W g M d mc ms Q kc ks (pc + 1) ls (f j.toNatClampNeg :: st) h) : q_W g M d mc ms Q kc ks pc ls (.int j :: .ref i :: st) h := by
  intro p e s m args below meth c H locs mls X hR hS hL
  obtain ⟨a, e1, hT⟩ := X.2.2.2.2.2.2.2.1.2.2.2.2.2.2.2.1 i _ _ _ hc
  rw [List.map_cons, List.map_cons, q_tV_old hi, e1]
  exact vb_tq X.1 X.2.1 hT hS hin rfl hd (kk p e s m args below meth c H locs mls X hR hS hL)
theorem q_tlen {i n : Nat} {f : Nat → Value} {ty : FieldType} (hi : i < q_R0) (hd : decode M.2.1 pc = .ok (.arraylength, 1)) (hc : q_ar g i = some (ty, n, f)) (kk : q_W g M d mc ms Q kc ks (pc + 1) ls (.int (Int32.ofNat n) :: st) h) : q_W g M d mc ms Q kc ks pc ls (.ref i :: st) h := by
  intro p e s m args below meth c H locs mls X hR hS hL
  obtain ⟨a, e1, hT⟩ := X.2.2.2.2.2.2.2.1.2.2.2.2.2.2.2.1 i _ _ _ hc
  rw [List.map_cons, q_tV_old hi, e1]
  exact va_tlen X.1 X.2.1 hT hS rfl hd (kk p e s m args below meth c H locs mls X hR hS hL)
/-- a load of an old reference that is one -/
def q_isold (g : q_G) (i : Nat) : Prop := i < q_R0 ∧ ∃ a : Nat, g.2.2.2.2.1 i = .ref a
theorem q_aload_nO {k : Fin 4} {x : Nat} (hx : q_isold g x) (hd : decode M.2.1 pc = .ok (.aload_n k, 1)) (hl : ls[(k : Nat)]? = some (.ref x)) (kk : q_W g M d mc ms Q kc ks (pc + 1) ls (.ref x :: st) h) : q_W g M d mc ms Q kc ks pc ls st h := by
  intro p e s m args below meth c H locs mls X hR hS hL
  obtain ⟨h1, a, h2⟩ := hx
  have k2 := kk p e s m args below meth c H locs mls X hR hS hL
  rw [List.map_cons, q_tV_old h1, h2] at k2
  exact lv_aload_n X.1 X.2.1 hd rfl (by rw [hL.at hl (by simp [q_u]), q_tV_old h1, h2]) k2
theorem q_aloadO {k : Nat} {x : Nat} (hx : q_isold g x) (hd : decode M.2.1 pc = .ok (.aload k, 2)) (hl : ls[k]? = some (.ref x)) (kk : q_W g M d mc ms Q kc ks (pc + 2) ls (.ref x :: st) h) : q_W g M d mc ms Q kc ks pc ls st h := by
  intro p e s m args below meth c H locs mls X hR hS hL
  obtain ⟨h1, a, h2⟩ := hx
  have k2 := kk p e s m args below meth c H locs mls X hR hS hL
  rw [List.map_cons, q_tV_old h1, h2] at k2
  exact lv_aload X.1 X.2.1 hd (by rw [hL.at hl (by simp [q_u]), q_tV_old h1, h2]) k2
/-- fields of the old objects -/
theorem q_getold {i : Nat} {own o n ds : String} {idx : Nat} {v : Value} (hi : i < q_R0) (hlw : Cond.fieldLink own idx o n ds ∈ q_WS) (ho : M.1.cls = own)
    (hv : ∀ U : State, q_K g U → ∃ a : Nat, g.2.2.2.2.1 i = .ref a ∧ va_OF o n ds (q_tV g v) a (q_A g) U U.heap)
    (hd : decode M.2.1 pc = .ok (.getfield idx, 3)) (kk : q_W g M d mc ms Q kc ks (pc + 3) ls (v :: st) h) : q_W g M d mc ms Q kc ks pc ls (.ref i :: st) h := by
  intro p e s m args below meth c H locs mls X hR hS hL
  have hts := q_hWS X.2.2.2.2.1
  obtain ⟨a, e1, hO⟩ := hv s X.2.2.2.2.2.2.2.1
  rw [List.map_cons, q_tV_old hi, e1]
  exact vk_getf X.1 X.2.1 hO hS (by rw [← ho]; exact X.2.2.2.1) (hts _ hlw) (fun _ q => q) hd (kk p e s m args below meth c H locs mls X hR hS hL)
theorem q_getoldN {i : Nat} {own host o n ds : String} {idx : Nat} {v : Value} (hi : i < q_R0) (hlw : Cond.fieldLinkNest own idx o n ds host ∈ lw_tbl) (ho : M.1.cls = own)
    (hv : ∀ U : State, q_K g U → ∃ a : Nat, g.2.2.2.2.1 i = .ref a ∧ va_OF o n ds (q_tV g v) a (q_A g) U U.heap)
    (hd : decode M.2.1 pc = .ok (.getfield idx, 3)) (kk : q_W g M d mc ms Q kc ks (pc + 3) ls (v :: st) h) : q_W g M d mc ms Q kc ks pc ls (.ref i :: st) h := by
  intro p e s m args below meth c H locs mls X hR hS hL
  have hK := X.2.2.2.2.2.2.2.1
  obtain ⟨a, e1, hO⟩ := hv s X.2.2.2.2.2.2.2.1
  rw [List.map_cons, q_tV_old hi, e1]
  obtain ⟨cf, k, fi, f, cell, z1, z2, z3, z4, z5, z6⟩ := hO.kept hS.2.1
  exact va_Wgetf X.1 X.2.1 (own := own) (by rw [← ho]; exact X.2.2.2.1) (va_Nw.use rfl (hK.2.2.2.2.2.1.2.1 _ _ _ _ _ _ hlw)) z1 z2 z3 z4 (v := q_tV g v) z5 rfl rfl hd (kk p e s m args below meth c H locs mls X hR hS hL)
theorem q_ordinalF {k : Nat} (hk : k < 11) : ∀ U : State, q_K g U → ∃ a : Nat, g.2.2.2.2.1 (3 + k) = .ref a ∧ va_OF "java/lang/Enum" "ordinal" "I" (q_tV g (.int (nI k))) a (q_A g) U U.heap := by
  intro U hK
  obtain ⟨a, h1, -, h2⟩ := hK.2.2.2.2.2.2.2.2.1 k hk
  exact ⟨a, h1, h2⟩
theorem q_coderF {k : Nat} (hk : k < 11) : ∀ U : State, q_K g U → ∃ a : Nat, g.2.2.2.2.1 (14 + k) = .ref a ∧ va_OF "java/lang/String" "coder" "B" (q_tV g (.int 0)) a (q_A g) U U.heap := by
  intro U hK
  obtain ⟨a, h1, -, h2, -⟩ := hK.2.2.2.2.2.2.2.2.2.1 k hk
  exact ⟨a, h1, h2⟩
theorem q_valueF {k : Nat} (hk : k < 11) : ∀ U : State, q_K g U → ∃ a : Nat, g.2.2.2.2.1 (14 + k) = .ref a ∧ va_OF "java/lang/String" "value" "[B" (q_tV g (.ref (25 + k))) a (q_A g) U U.heap := by
  intro U hK
  obtain ⟨a, h1, -, -, h2, -⟩ := hK.2.2.2.2.2.2.2.2.2.1 k hk
  exact ⟨a, h1, by rw [q_tV_old (show 25 + k < q_R0 by unfold q_R0; omega)]; exact h2⟩
/-! integer constants -/
theorem q_ldc {own : String} {idx : Nat} {v : Int32} (hlw : Cond.constant own idx v ∈ q_WS) (ho : M.1.cls = own) (hd : decode M.2.1 pc = .ok (.ldc idx, 2)) (kk : q_W g M d mc ms Q kc ks (pc + 2) ls (.int v :: st) h) : q_W g M d mc ms Q kc ks pc ls st h := fun p e s m args below meth c H locs mls X hR hS hL =>
  lv_ldc X.1 X.2.1 (own := own) (by rw [← ho]; exact X.2.2.2.1) (q_hWS X.2.2.2.2.1 _ hlw) hd (kk p e s m args below meth c H locs mls X hR hS hL)
theorem q_ldcw {own : String} {idx : Nat} {v : Int32} (hlw : Cond.constant own idx v ∈ q_WS) (ho : M.1.cls = own) (hd : decode M.2.1 pc = .ok (.ldc_w idx, 3)) (kk : q_W g M d mc ms Q kc ks (pc + 3) ls (.int v :: st) h) : q_W g M d mc ms Q kc ks pc ls st h := fun p e s m args below meth c H locs mls X hR hS hL =>
  lv_ldcw X.1 X.2.1 (own := own) (by rw [← ho]; exact X.2.2.2.1) (q_hWS X.2.2.2.2.1 _ hlw) hd (kk p e s m args below meth c H locs mls X hR hS hL)
/-! rows of states -/
theorem q_anewa {own : String} {idx : Nat} {n : Int32} {N : Nat} (hlw : Cond.classLink own idx "ArgumentMap$State" ∈ q_WS) (ho : M.1.cls = own) (hd : decode M.2.1 pc = .ok (.anewarray idx, 3)) (hn : ¬ n < 0) (hN : n.toNatClampNeg = N) (hb : N * 4 ≤ 536870912) (hmc : kc + 1 ≤ mc) (hms : ks + N ≤ ms)
    (kk : q_R0 ≤ h.1 → q_W g M d mc ms Q (kc + 1) (ks + N) (pc + 3) ls (.ref h.1 :: st) (q_push h (.inl (6, N, .inr (.inr (.inr (.inr (fun _ => none)))))))) : q_W g M d mc ms Q kc ks pc ls (.int n :: st) h := by
  intro p e s m args below meth c H locs mls X hR hS hL
  have hts := q_hWS X.2.2.2.2.1
  have hK := X.2.2.2.2.2.2.2.1
  have h1 := hR.1
  subst hN
  refine W.anew X.1 X.2.1 (own := own) (by rw [← ho]; exact X.2.2.2.1) (hts _ hlw) (va_AO.use hK.2.2.2.2.2.1.2.2.2.1) rfl hd rfl hn hb hmc hms fun cA kA comp f1 f2 f3 f4 => ?_
  obtain ⟨kA', comp', k1, k2, k3, k4⟩ := (hK.1.2 6 _ rfl).2
  have hc : cA = g.2.2.2.1 6 := Option.some.inj (f1.symm.trans k4)
  subst hc
  have hk := kk h1 p e s m args below meth c (H.push { cls := g.2.2.2.1 6, slots := Array.replicate n.toNatClampNeg .null, vm := .none }) locs mls X (hR.pushed (c := .inl (6, n.toNatClampNeg, .inr (.inr (.inr (.inr (fun _ => none)))))) (by rw [Array.size_push]) (by
    rw [← hR.2.1]
    show (H.push _)[H.size]? = some (arrV (g.2.2.2.1 6) n.toNatClampNeg (fun _ => .null))
    rw [Array.getElem?_push_size, ← arrV_new]) (fun q hq => by rw [Array.getElem?_push, if_neg (Nat.ne_of_lt hq)])) ⟨Nat.le_trans hS.1 (by simp), fun x q1 q2 => by rw [Array.getElem?_push, if_neg (Nat.ne_of_lt (Nat.lt_of_lt_of_le q1 hS.1))]; exact hS.2.1 x q1 q2, hS.2.2⟩ hL
  rw [List.map_cons, q_tV_ref h1, ← hR.2.1] at hk
  exact hk
end PVE
