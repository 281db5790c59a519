section PVF
variable {g : q_G} {M : q_M} {d mc ms : Nat} {Q : q_O → q_H → Prop} {kc ks pc : Nat} {ls st : List Value} {h : q_H}
theorem q_argsO {g : q_G} {a : Nat} {as : List Value} {i : Nat} {stk st : List Value} (hi : q_tV g (.ref i) = .ref a) (hk : stk = as.reverse ++ .ref i :: st) : stk.map (q_tV g) = (as.map (q_tV g)).reverse ++ .ref a :: st.map (q_tV g) := by
  rw [hk, List.map_append, List.map_reverse, List.map_cons, hi]

theorem q_invVO {M' : q_M} {d' mc' ms' : Nat} {Q' : q_O → q_H → Prop} {as stk : List Value} {own C : String} {idx n i : Nat}
    (hd : decode M.2.1 pc = .ok (.invokevirtual idx, 3)) (hk : q_isM M' n) (hl : Cond.methodLink own idx M'.1 ∈ q_WS) (hin : Cond.instanceMethod M'.1 ∈ q_WS) (hse : Cond.selects C M'.1 M'.1 ∈ q_WS) (ho : M.1.cls = own) (hi : i < q_R0) (hO : ∀ U : State, q_K g U → ∃ a : Nat, g.2.2.2.2.1 i = .ref a ∧ va_O C a (q_A g) U U.heap)
    (hstk : stk = as.reverse ++ .ref i :: st) (hn : as.length = n) (h4 : st.length ≤ 4) (hdd : d' + 1 ≤ d) (hml : M'.2.2.1 ≤ 31) (hmc : kc + mc' ≤ mc) (hms : ks + ms' ≤ ms)
    (sp : q_Spec g M' d' mc' ms' (.ref i :: as) h Q')
    (kk : ∀ v h1, Q' (.inl v) h1 → q_W g M d mc ms Q (kc + mc') (ks + ms') (pc + 3) ls (v.toList ++ st) h1)
    (kx : ∀ E h1, Q' (.inr E) h1 → q_X g M d mc ms Q E (kc + mc') (ks + ms') pc ls st h1) : q_W g M d mc ms Q kc ks pc ls stk h := by
  intro p e s m args below meth c H locs mls X hR hS hL
  have hts := q_hWS X.2.2.2.2.1
  have hK := X.2.2.2.2.2.2.2.1
  obtain ⟨a, e1, hrec⟩ := hO s hK
  have hta : q_tV g (.ref i) = .ref a := (q_tV_old hi).trans e1
  have hown : s.vm.findClass own = some m.cls := by rw [← ho]; exact X.2.2.2.1
  have hpre := fun U hU hW => q_pre (as := .ref i :: as) hK hR hS U hU hW
  rw [List.map_cons, hta] at hpre
  refine q_cont (vx_runV (C := C) (As := as.map (q_tV g)) (rest := st.map (q_tV g)) ⟨X.1, X.2.1, X.2.2.1, hown, hts⟩ sp ⟨q_cb hts hk hl hdd hml, hts _ hin, hts _ hse⟩ ⟨q_blind, va_Orecv hrec hS, hpre⟩ rfl (by rw [List.length_map]; exact hn) hL.1 (q_argsO hta hstk) (q_rest h4) hd ⟨hmc, hms⟩) hS ?_ ?_
  · intro v h1 H1 locs1 hq hR1 hS1
    rw [← q_toList]
    exact kk v h1 hq p e s m args below meth c H1 locs1 mls X hR1 hS1 hL
  · intro E h1 H1 locs1 q9 ce hq hR1 hS1 h9 hv hcl9
    exact kx E h1 hq p e s m args below meth c H1 locs1 mls q9 ce X hR1 hS1 hL h9 hv hcl9

theorem q_invUO {M' : q_M} {x : MethodName} {d' mc' ms' : Nat} {Q' : q_O → q_H → Prop} {as stk : List Value} {own owner C : String} {idx n i : Nat}
    (hd : decode M.2.1 pc = .ok (.invokevirtual idx, 3)) (hk : q_isM M' n) (hyx : M'.1 = ⟨owner, x.name, x.desc⟩) (howner : owner ≠ "java/lang/invoke/MethodHandle" ∧ owner ≠ "java/lang/invoke/VarHandle")
    (hl : Cond.methodLink own idx x ∈ q_WS) (hsm : Cond.sameMethod x.cls owner x.name x.desc ∈ q_WS) (hin : Cond.instanceMethod M'.1 ∈ q_WS) (hse : Cond.selects C x M'.1 ∈ q_WS) (ho : M.1.cls = own) (hi : i < q_R0) (hO : ∀ U : State, q_K g U → ∃ a : Nat, g.2.2.2.2.1 i = .ref a ∧ va_O C a (q_A g) U U.heap)
    (hstk : stk = as.reverse ++ .ref i :: st) (hn : as.length = n) (h4 : st.length ≤ 4) (hdd : d' + 1 ≤ d) (hml : M'.2.2.1 ≤ 31) (hmc : kc + mc' ≤ mc) (hms : ks + ms' ≤ ms)
    (sp : q_Spec g M' d' mc' ms' (.ref i :: as) h Q')
    (kk : ∀ v h1, Q' (.inl v) h1 → q_W g M d mc ms Q (kc + mc') (ks + ms') (pc + 3) ls (v.toList ++ st) h1)
    (kx : ∀ E h1, Q' (.inr E) h1 → q_X g M d mc ms Q E (kc + mc') (ks + ms') pc ls st h1) : q_W g M d mc ms Q kc ks pc ls stk h := by
  intro p e s m args below meth c H locs mls X hR hS hL
  have hts := q_hWS X.2.2.2.2.1
  have hK := X.2.2.2.2.2.2.2.1
  obtain ⟨a, e1, hrec⟩ := hO s hK
  have hta : q_tV g (.ref i) = .ref a := (q_tV_old hi).trans e1
  have hown : s.vm.findClass own = some m.cls := by rw [← ho]; exact X.2.2.2.1
  have hpre := fun U hU hW => q_pre (as := .ref i :: as) hK hR hS U hU hW
  rw [List.map_cons, hta] at hpre
  have hT : GoodIn (q_WS) (va_wsU own idx C owner x M'.1 (q_ws M')) := by
    intro w hw
    have hm : w ∈ q_WS := by
      rcases List.mem_append.mp hw with h1 | h1
      · simp only [List.mem_cons, List.not_mem_nil, or_false] at h1
        rcases h1 with rfl | rfl | rfl | rfl | rfl
        · exact hl
        · exact hsm
        · exact hse
        · exact hin
        · exact hk.2.2.2.2
      · rcases List.mem_cons.mp h1 with rfl | h1
        · exact hk.2.2.2.1
        · exact h1
    exact ⟨hm, good_of_word (List.mem_filter.mp hm).2⟩
  have cw : va_CU (q_rm d mc ms) s args own C owner idx x M'.1 M'.2.1 M'.2.2.1 M'.2.2.2.1 (q_ws M') (q_rm d' mc' ms') mc' ms' n :=
    va_cwU (ws' := q_WS) n hts hT (by rw [q_ws, q_cw_code hk.1]) rfl rfl hyx ⟨howner.1, howner.2, by have h9 := hk.2.2.1; rw [hyx] at h9; exact h9⟩ ⟨hdd, by show 8 + (M'.2.2.1 + 11) + 50 * d' ≤ 50 * d; omega⟩
  refine q_cont (vx_runU (C := C) (As := as.map (q_tV g)) (rest := st.map (q_tV g)) ⟨X.1, X.2.1, X.2.2.1, hown, hts⟩ sp cw ⟨q_blind, va_Orecv hrec hS, hpre⟩ rfl (by rw [List.length_map]; exact hn) hL.1 (q_argsO hta hstk) (q_rest h4) hd ⟨hmc, hms⟩) hS ?_ ?_
  · intro v h1 H1 locs1 hq hR1 hS1
    rw [← q_toList]
    exact kk v h1 hq p e s m args below meth c H1 locs1 mls X hR1 hS1 hL
  · intro E h1 H1 locs1 q9 ce hq hR1 hS1 h9 hv hcl9
    exact kx E h1 hq p e s m args below meth c H1 locs1 mls q9 ce X hR1 hS1 hL h9 hv hcl9

theorem q_cw_with {M : q_M} (h : M.2.2.2.2 ≠ []) : q_cw M = .codeWith M.1 M.2.1 M.2.2.1 M.2.2.2.1 M.2.2.2.2 := by
  unfold q_cw
  cases e : M.2.2.2.2 with
  | nil => exact absurd e h
  | cons x l => rfl
theorem q_goodIn {ws : List Cond} (h : ∀ w ∈ ws, w ∈ q_WS) : GoodIn q_WS ws := fun w hw => ⟨h w hw, good_of_word (List.mem_filter.mp (h w hw)).2⟩

theorem q_invSH {M' : q_M} {d' mc' ms' : Nat} {Q' : q_O → q_H → Prop} {as stk : List Value} {own : String} {idx n : Nat}
    (hd : decode M.2.1 pc = .ok (.invokestatic idx, 3)) (hk : q_isMH M' n) (hl : Cond.methodLink own idx M'.1 ∈ q_WS) (hstat : Cond.static M'.1 ∈ q_WS) (ho : M.1.cls = own)
    (hstk : stk = as.reverse ++ st) (hn : as.length = n) (h4 : st.length ≤ 4) (hdd : d' + 1 ≤ d) (hml : M'.2.2.1 ≤ 31) (hmc : kc + mc' ≤ mc) (hms : ks + ms' ≤ ms)
    (sp : q_Spec g M' d' mc' ms' as h Q')
    (kk : ∀ v h1, Q' (.inl v) h1 → q_W g M d mc ms Q (kc + mc') (ks + ms') (pc + 3) ls (v.toList ++ st) h1)
    (kx : ∀ E h1, Q' (.inr E) h1 → q_X g M d mc ms Q E (kc + mc') (ks + ms') pc ls st h1) : q_W g M d mc ms Q kc ks pc ls stk h := by
  intro p e s m args below meth c H locs mls X hR hS hL
  have hts := q_hWS X.2.2.2.2.1
  have hK := X.2.2.2.2.2.2.2.1
  have hown : s.vm.findClass own = some m.cls := by rw [← ho]; exact X.2.2.2.1
  have hT : GoodIn q_WS (va_wsS own idx M'.1 (q_ws M')) := q_goodIn (by
    intro w hw
    rcases List.mem_append.mp hw with h1 | h1
    · simp only [List.mem_cons, List.not_mem_nil, or_false] at h1
      rcases h1 with rfl | rfl | rfl
      · exact hl
      · exact hstat
      · exact hk.2.2.2.2
    · rcases List.mem_cons.mp h1 with rfl | h1
      · exact hk.2.2.2.1
      · exact h1)
  have cw : vx_CSW (q_rm d mc ms) s args own idx M'.1 M'.2.1 M'.2.2.1 M'.2.2.2.1 M'.2.2.2.2 (q_ws M') (q_rm d' mc' ms') mc' ms' n :=
    vx_cwSW (ws' := q_WS) n hts hT (by rw [q_ws, q_cw_with hk.1]) rfl rfl ⟨hk.2.1.1, hk.2.1.2, hk.2.2.1⟩ ⟨hdd, by show 8 + (M'.2.2.1 + 11) + 50 * d' ≤ 50 * d; omega⟩
  refine q_cont (vx_runSX (hh := M'.2.2.2.2) (As := as.map (q_tV g)) (rest := st.map (q_tV g)) ⟨X.1, X.2.1, X.2.2.1, hown, hts⟩ sp cw ⟨q_blind, fun U hU hW => q_pre hK hR hS U hU hW⟩ rfl (by rw [List.length_map]; exact hn) hL.1 (q_argsS hstk) (q_rest h4) hd ⟨hmc, hms⟩) hS ?_ ?_
  · intro v h1 H1 locs1 hq hR1 hS1
    rw [← q_toList]
    exact kk v h1 hq p e s m args below meth c H1 locs1 mls X hR1 hS1 hL
  · intro E h1 H1 locs1 q9 ce hq hR1 hS1 h9 hv hcl9
    exact kx E h1 hq p e s m args below meth c H1 locs1 mls q9 ce X hR1 hS1 hL h9 hv hcl9

theorem q_invVH {M' : q_M} {d' mc' ms' : Nat} {Q' : q_O → q_H → Prop} {as stk fs : List Value} {own C : String} {T : u_T} {N idx n i ci : Nat}
    (hd : decode M.2.1 pc = .ok (.invokevirtual idx, 3)) (hk : q_isMH M' n) (hl : Cond.methodLink own idx M'.1 ∈ q_WS) (hin : Cond.instanceMethod M'.1 ∈ q_WS) (hse : Cond.selects C M'.1 M'.1 ∈ q_WS) (hy : M'.1.cls = C) (ho : M.1.cls = own) (hcl : vwCl[ci]? = some (C, T, N))
    (hc : h.2 i = some (.inr (ci, fs))) (hstk : stk = as.reverse ++ .ref i :: st) (hn : as.length = n) (h4 : st.length ≤ 4) (hdd : d' + 1 ≤ d) (hml : M'.2.2.1 ≤ 31) (hmc : kc + mc' ≤ mc) (hms : ks + ms' ≤ ms)
    (sp : q_Spec g M' d' mc' ms' (.ref i :: as) h Q')
    (kk : ∀ v h1, Q' (.inl v) h1 → q_W g M d mc ms Q (kc + mc') (ks + ms') (pc + 3) ls (v.toList ++ st) h1)
    (kx : ∀ E h1, Q' (.inr E) h1 → q_X g M d mc ms Q E (kc + mc') (ks + ms') pc ls st h1) : q_W g M d mc ms Q kc ks pc ls stk h := by
  intro p e s m args below meth c H locs mls X hR hS hL
  obtain ⟨i1, i2, i3⟩ := hR.2.2 i _ hc
  have hts := q_hWS X.2.2.2.2.1
  have hK := X.2.2.2.2.2.2.2.1
  have hown : s.vm.findClass own = some m.cls := by rw [← ho]; exact X.2.2.2.1
  have hpre := fun U hU hW => q_pre (as := .ref i :: as) hK hR hS U hU hW
  rw [List.map_cons, q_tV_ref i1] at hpre
  have hT : GoodIn q_WS (wsV own idx C M'.1 (q_ws M')) := q_goodIn (by
    intro w hw
    rcases List.mem_append.mp hw with h1 | h1
    · simp only [List.mem_cons, List.not_mem_nil, or_false] at h1
      rcases h1 with rfl | rfl | rfl | rfl
      · exact hl
      · exact hin
      · exact hse
      · rw [← hy]; exact hk.2.2.2.2
    · rcases List.mem_cons.mp h1 with rfl | h1
      · exact hk.2.2.2.1
      · exact h1)
  have cw : vx_CVW (q_rm d mc ms) s args own C idx M'.1 M'.2.1 M'.2.2.1 M'.2.2.2.1 M'.2.2.2.2 (q_ws M') (q_rm d' mc' ms') mc' ms' n :=
    vx_cwVW (ws' := q_WS) n hts hT (by rw [q_ws, q_cw_with hk.1]) rfl rfl ⟨hy, hk.2.1.1, hk.2.1.2, hk.2.2.1⟩ ⟨hdd, by show 8 + (M'.2.2.1 + 11) + 50 * d' ≤ 50 * d; omega⟩
  refine q_cont (vx_runVX (hh := M'.2.2.2.2) (C := C) (As := as.map (q_tV g)) (rest := st.map (q_tV g)) ⟨X.1, X.2.1, X.2.2.1, hown, hts⟩ sp cw ⟨q_blind, va_recv (q0 := 0) (fs := fs.map (q_tV g)) hK.1 (q_P1 i3) hcl rfl, hpre⟩ rfl (by rw [List.length_map]; exact hn) hL.1 (q_args i1 hstk) (q_rest h4) hd ⟨hmc, hms⟩) hS ?_ ?_
  · intro v h1 H1 locs1 hq hR1 hS1
    rw [← q_toList]
    exact kk v h1 hq p e s m args below meth c H1 locs1 mls X hR1 hS1 hL
  · intro E h1 H1 locs1 q9 ce hq hR1 hS1 h9 hv hcl9
    exact kx E h1 hq p e s m args below meth c H1 locs1 mls q9 ce X hR1 hS1 hL h9 hv hcl9

theorem q_enterH {as : List Value} (hy : plainName M.1.cls = true) (hh : M.2.2.2.2 ≠ []) (has : as.all q_one = true) (hlen : as.length ≤ M.2.2.1)
    (hW : q_R0 ≤ h.1 → q_W g M d mc ms Q 0 0 0 (as ++ List.replicate (M.2.2.1 - as.length) q_u) [] h) : q_Spec g M d mc ms as h Q := by
  refine vx_ofWH (hh := M.2.2.2.2) (cc := M.2.1) (maxL := M.2.2.1) (ret := M.2.2.2.1) (ws' := q_WS) hy (by rw [q_ws, q_cw_with hh]) ?_
  intro p e s m args below meth c s₁ B hml hP
  obtain ⟨rfl, hR, hK⟩ := hP
  have hsl : ∀ (l : List Value), l.all q_one = true → lg_sl (l.map (q_tV g)) = l.map (fun v => Slot.val (q_tV g v)) := by
    intro l hl
    induction l with
    | nil => rfl
    | cons v l ih =>
      simp only [List.all_cons, Bool.and_eq_true] at hl
      have h1 := q_one_cat (g := g) hK.2.2.2.2.2.2.2.2.2.2 hl.1
      have h2 := ih hl.2
      show (if (q_tV g v).category = 2 then _ else _) ++ lg_sl (l.map (q_tV g)) = _
      rw [h2, if_neg (by omega)]
      rfl
  have hle : (lg_sl (as.map (q_tV g))).length ≤ M.2.2.1 := by rw [hsl as has, List.length_map]; exact hlen
  have hl := lv_entry (as.map (q_tV g)) hle
  have hts : ∀ w ∈ q_ws M, w.before (as.map (q_tV g)).toArray s = true := atoms_spec (ws := q_ws M) B.pre
  have hX : q_Cx g M p s m (as.map (q_tV g)).toArray meth c := by
    refine ⟨B.exec, B.bytes, hml, findClass_of_methodNamed B.named, fun w hw => hts w (List.mem_cons_of_mem _ hw), B.returns, B.notSynchronized, hK, ?_, (name_of_methodNamed B.named B.method).1⟩
    have h1 := hts _ List.mem_cons_self
    rw [q_cw_with hh] at h1
    exact vx_table (x := M.1) B h1
  rw [lg_entry_eq]
  refine hW hR.1 p e s m _ below meth c s.heap [] _ hX hR va_S.rf ⟨hl.1, by simp; omega, hl.2.1, ?_⟩
  intro i v hi hu
  rw [hsl as has]
  by_cases hi2 : i < as.length
  · rw [List.getElem?_append_left hi2] at hi
    simp only [List.getElem?_toArray]
    rw [List.getElem?_append_left (by rw [List.length_map]; exact hi2), List.getElem?_map, hi]
    rfl
  · rw [List.getElem?_append_right (by omega)] at hi
    exact absurd (List.eq_of_mem_replicate (List.mem_of_getElem? hi)) hu

/-- System.arraycopy between two arrays of ints or of bytes -/
theorem q_copy {own : String} {idx i j t n0 n1 : Nat} {ty : FieldType} {f f1 : Nat → Int32} {sp dp n : Int32} (hl : Cond.methodLink own idx arraycopyName ∈ q_WS) (hnat : Cond.native arraycopyName ∈ q_WS) (hstat : Cond.static arraycopyName ∈ q_WS) (hini : Cond.initialized "java/lang/System" ∈ q_WS) (ho : M.1.cls = own)
    (ht : (q_tys g)[t]? = some (g.2.2.2.1 t, ty)) (hprim : refKind ty = false) (hc0 : h.2 i = some (.inl (t, n0, .inl f))) (hc1 : h.2 j = some (.inl (t, n1, .inl f1)))
    (h1 : ¬ sp < 0) (h2 : ¬ dp < 0) (h3 : ¬ n < 0) (h4 : sp.toNatClampNeg + n.toNatClampNeg ≤ n0) (h5 : dp.toNatClampNeg + n.toNatClampNeg ≤ n1) (hfit : ∀ k, k < n.toNatClampNeg → fits ty (.int (f (sp.toNatClampNeg + k))) = true)
    (hst : st.length ≤ 4) (hdd : 1 ≤ d) (hd : decode M.2.1 pc = .ok (.invokestatic idx, 3))
    (kk : q_W g M d mc ms Q kc ks (pc + 3) ls st (q_set h j (.inl (t, n1, .inl (va_cpy f f1 sp.toNatClampNeg dp.toNatClampNeg n.toNatClampNeg))))) : q_W g M d mc ms Q kc ks pc ls (.int n :: .int dp :: .ref j :: .int sp :: .ref i :: st) h := by
  have nn : ∀ z : Int32, ¬ z < 0 → z.toInt = (z.toNatClampNeg : Int) := by
    intro z hz
    have hz0 : (0 : Int) ≤ z.toInt := by
      have := Int32.not_lt.mp hz
      simpa using Int32.le_iff_toInt_le.mp this
    show z.toInt = ((z.toInt.toNat : Nat) : Int)
    omega
  intro p e s m args below meth c H locs mls X hR hS hL T hT Y
  have hts := q_hWS X.2.2.2.2.1
  obtain ⟨i1, -, i3⟩ := hR.2.2 i _ hc0
  obtain ⟨j1, -, j3⟩ := hR.2.2 j _ hc1
  have hcs : H[q_ad g i]? = some (vp_cell (g.2.2.2.1 t) (n0, .inl f)) := i3
  have hcd : H[q_ad g j]? = some (vp_cell (g.2.2.2.1 t) (n1, .inl f1)) := j3
  have hA := (X.2.2.2.2.2.2.2.1.1.2 t _ ht).1
  obtain ⟨-, k0, hk0, cm0, hkk0⟩ := hA n0 (fun j => .int (f j))
  obtain ⟨-, k1, hk1, cm1, hkk1⟩ := hA n1 (fun j => .int (f1 j))
  have h8 := q_rest2 (g := g) hst
  obtain ⟨vm', Y', step⟩ := Y.arraycopy X.1 (own := own) (by rw [← ho]; exact X.2.2.2.1) (hts _ hl) (hts _ hnat) (hts _ hstat) (hts _ hini) (src := q_ad g i) (dst := q_ad g j) (cs := vp_cell (g.2.2.2.1 t) (n0, .inl f)) (cd := vp_cell (g.2.2.2.1 t) (n1, .inl f1)) (srcPos := sp) (destPos := dp) (n := n) (by rw [hT]; exact hcs) (by rw [hT]; exact hcd)
    (fun _ h => by cases h) (fun _ h => by cases h) (fun h => by cases h) (fun h => by cases h) hk0 hk1 hkk0 hkk1 (by simp [hprim]) h1 h2 h3
    (by rw [nn sp h1, nn n h3]; show ¬ _ > ((arrV (g.2.2.2.1 t) n0 (fun j => .int (f j))).slots.size : Int); rw [arrV_size]; omega)
    (by rw [nn dp h2, nn n h3]; show ¬ _ > ((arrV (g.2.2.2.1 t) n1 (fun j => .int (f1 j))).slots.size : Int); rw [arrV_size]; omega)
    (fun vm₁ _ k hk => by
      have e : (vp_cell (g.2.2.2.1 t) (n0, .inl f)).slots.getD (sp.toNatClampNeg + k) .null = .int (f (sp.toNatClampNeg + k)) := by
        show (arrV (g.2.2.2.1 t) n0 (fun j => .int (f j))).slots.getD _ _ = _
        rw [Array.getD_eq_getD_getElem?, arrV_read _ _ (by omega)]
        rfl
      exact ⟨by rw [e]; exact hfit k hk, by rw [e]; exact trivial⟩)
    (g := F0 m pc mls ((Value.int n :: .int dp :: .ref j :: .int sp :: .ref i :: st).map (q_tV g))) rfl (by show mls.size = _; rw [hL.1, X.2.2.1]) (rest := st.map (q_tV g)) (by
      show (Value.int n :: .int dp :: .ref j :: .int sp :: .ref i :: st).map (q_tV g) = _
      rw [List.map_cons, List.map_cons, List.map_cons, List.map_cons, List.map_cons, q_tV_ref i1, q_tV_ref j1]
      rfl) (by rw [X.2.1]; exact hd) hdd (by
      show 2 * 0 + _ + ((5 + 2) + 11) ≤ 50 * d
      omega)
  have e1 : copied (vp_cell (g.2.2.2.1 t) (n0, .inl f)) (vp_cell (g.2.2.2.1 t) (n1, .inl f1)) sp dp n = vp_cell (g.2.2.2.1 t) (n1, .inl (va_cpy f f1 sp.toNatClampNeg dp.toNatClampNeg n.toNatClampNeg)) := va_copied (fun z => .int z) _ _ f f1 h4
  rw [e1] at Y' step
  generalize hcell : vp_cell (g.2.2.2.1 t) (n1, .inl (va_cpy f f1 sp.toNatClampNeg dp.toNatClampNeg n.toNatClampNeg)) = cell at Y' step
  have hl9 : q_ad g j < H.size := (Array.getElem?_eq_some_iff.mp hcd).1
  have hheap : ((T.setVm vm').setCell (q_ad g j) cell).heap = H.setIfInBounds (q_ad g j) cell := by rw [← hT]; rfl
  have oq : ∀ q : Nat, q ≠ q_ad g j → (H.setIfInBounds (q_ad g j) cell)[q]? = H[q]? := fun q hq => by simp [Array.getElem?_setIfInBounds, Ne.symm hq]
  obtain ⟨t2, a1, b1⟩ := kk p e s m args below meth c (H.setIfInBounds (q_ad g j) cell) _ mls X (hR.upd hc1 (by simp) (by
      show (H.setIfInBounds (q_ad g j) cell)[q_ad g j]? = some (vp_cell (g.2.2.2.1 t) (n1, .inl (va_cpy f f1 sp.toNatClampNeg dp.toNatClampNeg n.toNatClampNeg)))
      rw [hcell]
      simp [Array.getElem?_setIfInBounds, hl9]) oq) ⟨by simp; exact hS.1, fun q g1 g2 => by
      rw [oq q (fun e => g2 (by rw [e]; exact q_A_of))]
      exact hS.2.1 q g1 g2, fun q hq => by
      rcases List.mem_append.mp hq with h | h
      · exact hS.2.2 q h
      · obtain ⟨z, -, hz⟩ := List.mem_map.mp h
        rw [← hz]
        exact q_A_of⟩ hL _ hheap Y'
  exact ⟨t2, step t2 a1, b1⟩
end PVF
