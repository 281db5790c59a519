section PVD
variable {g : q_G} {M : q_M} {d mc ms : Nat} {Q : q_O → q_H → Prop} {kc ks pc : Nat} {ls st : List Value} {h : q_H}
/-- a virtual call of a method that the receiver's class has from above -/
theorem q_invU {M' : q_M} {x : MethodName} {d' mc' ms' : Nat} {Q' : q_O → q_H → Prop} {as stk fs : List Value} {own owner C : String} {T : u_T} {N idx n i ci : Nat}
    (hd : decode M.2.1 pc = .ok (.invokevirtual idx, 3)) (hk : q_isM M' n) (hyx : M'.1 = ⟨owner, x.name, x.desc⟩) (howner : owner ≠ "java/lang/invoke/MethodHandle" ∧ owner ≠ "java/lang/invoke/VarHandle")
    (hl : Cond.methodLink own idx x ∈ q_WS) (hsm : Cond.sameMethod x.cls owner x.name x.desc ∈ q_WS) (hin : Cond.instanceMethod M'.1 ∈ q_WS) (hse : Cond.selects C x M'.1 ∈ q_WS) (ho : M.1.cls = own) (hcl : vwCl[ci]? = some (C, T, N))
    (hc : h.2 i = some (.inr (ci, fs))) (hstk : stk = as.reverse ++ .ref i :: st) (hn : as.length = n) (h4 : st.length ≤ 4) (hdd : d' + 1 ≤ d) (hml : M'.2.2.1 ≤ 31) (hmc : kc + mc' ≤ mc) (hms : ks + ms' ≤ ms)
    (sp : q_Spec g M' d' mc' ms' (.ref i :: as) h Q')
    (kk : ∀ v h1, Q' (.inl v) h1 → q_W g M d mc ms Q (kc + mc') (ks + ms') (pc + 3) ls (v.toList ++ st) h1)
    (kx : ∀ E h1, Q' (.inr E) h1 → q_X g M d mc ms Q E (kc + mc') (ks + ms') pc ls st h1) : q_W g M d mc ms Q kc ks pc ls stk h := by
  intro p e s m args below meth c H locs mls X hR hS hL
  obtain ⟨i1, i2, i3⟩ := hR.2.2 i _ hc
  have hts := q_hWS X.2.2.2.2.1
  have hK := X.2.2.2.2.2.2.2.1
  have hown : s.vm.findClass own = some m.cls := by rw [← ho]; exact X.2.2.2.1
  have hpre := fun U hU hW => q_pre (as := .ref i :: as) hK hR hS U hU hW
  rw [List.map_cons, q_tV_ref i1] at hpre
  have hT : GoodIn (q_WS) (va_wsU own idx C owner x M'.1 (q_ws M')) := by
    intro w hw
    have hm : w ∈ q_WS := by
      rcases List.mem_append.mp hw with h1 | h1
      · simp only [List.mem_cons, List.not_mem_nil, or_false] at h1
        rcases h1 with rfl | rfl | rfl | rfl | rfl
        · exact hl
        · exact hsm
        · exact hse
        · exact hin
        · exact hk.2.2.2.2
      · rcases List.mem_cons.mp h1 with rfl | h1
        · exact hk.2.2.2.1
        · exact h1
    exact ⟨hm, good_of_word (List.mem_filter.mp hm).2⟩
  have cw : va_CU (q_rm d mc ms) s args own C owner idx x M'.1 M'.2.1 M'.2.2.1 M'.2.2.2.1 (q_ws M') (q_rm d' mc' ms') mc' ms' n :=
    va_cwU (ws' := q_WS) n hts hT (by rw [q_ws, q_cw_code hk.1]) rfl rfl hyx ⟨howner.1, howner.2, by have h9 := hk.2.2.1; rw [hyx] at h9; exact h9⟩ ⟨hdd, by show 8 + (M'.2.2.1 + 11) + 50 * d' ≤ 50 * d; omega⟩
  refine q_cont (vx_runU (C := C) (As := as.map (q_tV g)) (rest := st.map (q_tV g)) ⟨X.1, X.2.1, X.2.2.1, hown, hts⟩ sp cw ⟨q_blind, va_recv (q0 := 0) (fs := fs.map (q_tV g)) hK.1 (q_P1 i3) hcl rfl, hpre⟩ rfl (by rw [List.length_map]; exact hn) hL.1 (q_args i1 hstk) (q_rest h4) hd ⟨hmc, hms⟩) hS ?_ ?_
  · intro v h1 H1 locs1 hq hR1 hS1
    rw [← q_toList]
    exact kk v h1 hq p e s m args below meth c H1 locs1 mls X hR1 hS1 hL
  · intro E h1 H1 locs1 q9 ce hq hR1 hS1 h9 hv hcl9
    exact kx E h1 hq p e s m args below meth c H1 locs1 mls q9 ce X hR1 hS1 hL h9 hv hcl9
/-- super.m(..) -/
theorem q_invSU {M' : q_M} {d' mc' ms' : Nat} {Q' : q_O → q_H → Prop} {as stk fs : List Value} {own : String} {T : u_T} {N idx n i ci : Nat}
    (hd : decode M.2.1 pc = .ok (.invokespecial idx, 3)) (hk : q_isM M' n) (hnm : M'.1.name ≠ "<init>")
    (hl : Cond.methodLink own idx M'.1 ∈ q_WS) (hsm : Cond.sameMethod M'.1.cls M'.1.cls M'.1.name M'.1.desc ∈ q_WS) (hsup : Cond.superclass own M'.1.cls ∈ q_WS) (hin : Cond.instanceMethod M'.1 ∈ q_WS) (ho : M.1.cls = own) (hcl : vwCl[ci]? = some (own, T, N))
    (hc : h.2 i = some (.inr (ci, fs))) (hstk : stk = as.reverse ++ .ref i :: st) (hn : as.length = n) (h4 : st.length ≤ 4) (hdd : d' + 1 ≤ d) (hml : M'.2.2.1 ≤ 31) (hmc : kc + mc' ≤ mc) (hms : ks + ms' ≤ ms)
    (sp : q_Spec g M' d' mc' ms' (.ref i :: as) h Q')
    (kk : ∀ v h1, Q' (.inl v) h1 → q_W g M d mc ms Q (kc + mc') (ks + ms') (pc + 3) ls (v.toList ++ st) h1)
    (kx : ∀ E h1, Q' (.inr E) h1 → q_X g M d mc ms Q E (kc + mc') (ks + ms') pc ls st h1) : q_W g M d mc ms Q kc ks pc ls stk h := by
  intro p e s m args below meth c H locs mls X hR hS hL
  obtain ⟨i1, i2, i3⟩ := hR.2.2 i _ hc
  have hts := q_hWS X.2.2.2.2.1
  have hK := X.2.2.2.2.2.2.2.1
  have hown : s.vm.findClass own = some m.cls := by rw [← ho]; exact X.2.2.2.1
  have hpre := fun U hU hW => q_pre (as := .ref i :: as) hK hR hS U hU hW
  rw [List.map_cons, q_tV_ref i1] at hpre
  have hT : GoodIn (q_WS) (va_wsSU own idx M'.1 (q_ws M')) := by
    intro w hw
    have hm : w ∈ q_WS := by
      rcases List.mem_append.mp hw with h1 | h1
      · simp only [List.mem_cons, List.not_mem_nil, or_false] at h1
        rcases h1 with rfl | rfl | rfl | rfl | rfl
        · exact hl
        · exact hsm
        · exact hsup
        · exact hin
        · exact hk.2.2.2.2
      · rcases List.mem_cons.mp h1 with rfl | h1
        · exact hk.2.2.2.1
        · exact h1
    exact ⟨hm, good_of_word (List.mem_filter.mp hm).2⟩
  have cw : va_CS (q_rm d mc ms) s args own idx M'.1 M'.2.1 M'.2.2.1 M'.2.2.2.1 (q_ws M') (q_rm d' mc' ms') mc' ms' n :=
    va_cwSU (ws' := q_WS) n hts hT (by rw [q_ws, q_cw_code hk.1]) rfl rfl ⟨hnm, hk.2.2.1⟩ ⟨hdd, by show 8 + (M'.2.2.1 + 11) + 50 * d' ≤ 50 * d; omega⟩
  refine q_cont (vx_runSU (C := own) (As := as.map (q_tV g)) (rest := st.map (q_tV g)) (hK.1.1 ci _ hcl).2 ⟨X.1, X.2.1, X.2.2.1, hown, hts⟩ sp cw ⟨q_blind, va_recv (q0 := 0) (fs := fs.map (q_tV g)) hK.1 (q_P1 i3) hcl rfl, hpre⟩ rfl (by rw [List.length_map]; exact hn) hL.1 (q_args i1 hstk) (q_rest h4) hd ⟨hmc, hms⟩) hS ?_ ?_
  · intro v h1 H1 locs1 hq hR1 hS1
    rw [← q_toList]
    exact kk v h1 hq p e s m args below meth c H1 locs1 mls X hR1 hS1 hL
  · intro E h1 H1 locs1 q9 ce hq hR1 hS1 h9 hv hcl9
    exact kx E h1 hq p e s m args below meth c H1 locs1 mls q9 ce X hR1 hS1 hL h9 hv hcl9
/-- Object's constructor -/
theorem q_objInit {own : String} {idx i : Nat} (hi : q_R0 ≤ i) (hl : Cond.methodLink own idx Lib.objectInit ∈ q_WS) (hin : Cond.instanceMethod Lib.objectInit ∈ q_WS) (hcd : Cond.code Lib.objectInit ⟨#[0xb1]⟩ 1 none ∈ q_WS) (ho : M.1.cls = own)
    (hd : decode M.2.1 pc = .ok (.invokespecial idx, 3)) (h4 : st.length ≤ 4) (hdd : 1 ≤ d) (kk : q_W g M d mc ms Q kc ks (pc + 3) ls st h) : q_W g M d mc ms Q kc ks pc ls (.ref i :: st) h := by
  intro p e s m args below meth c H locs mls X hR hS hL
  have hts := q_hWS X.2.2.2.2.1
  rw [List.map_cons, q_tV_ref hi]
  refine W.objInit X.1 X.2.1 (own := own) (by rw [← ho]; exact X.2.2.2.1) (hts _ hl) (hts _ hin) (hts _ hcd) rfl (by show mls.size = _; rw [hL.1, X.2.2.1]) rfl hd hdd ?_ (kk p e s m args below meth c H locs mls X hR hS hL)
  have h8 := q_sum_le (st.map (q_tV g))
  rw [List.length_map] at h8
  show 2 * 0 + _ + 12 ≤ 50 * d
  omega
/-- a body, from its entry -/
theorem q_enter {as : List Value} (hy : plainName M.1.cls = true) (hh : M.2.2.2.2 = []) (has : as.all q_one = true) (hlen : as.length ≤ M.2.2.1)
    (hW : q_R0 ≤ h.1 → q_W g M d mc ms Q 0 0 0 (as ++ List.replicate (M.2.2.1 - as.length) q_u) [] h) : q_Spec g M d mc ms as h Q := by
  refine vx_ofW (cc := M.2.1) (maxL := M.2.2.1) (ret := M.2.2.2.1) (ws' := q_WS) hy (by rw [q_ws, q_cw_code hh]) ?_
  intro p e s m args below meth c s₁ B hml htab hP
  obtain ⟨rfl, hR, hK⟩ := hP
  have hsl : ∀ (l : List Value), l.all q_one = true → lg_sl (l.map (q_tV g)) = l.map (fun v => Slot.val (q_tV g v)) := by
    intro l hl
    induction l with
    | nil => rfl
    | cons v l ih =>
      simp only [List.all_cons, Bool.and_eq_true] at hl
      have h1 := q_one_cat (g := g) hK.2.2.2.2.2.2.2.2.2.2 hl.1
      have h2 := ih hl.2
      show (if (q_tV g v).category = 2 then _ else _) ++ lg_sl (l.map (q_tV g)) = _
      rw [h2, if_neg (by omega)]
      rfl
  have hle : (lg_sl (as.map (q_tV g))).length ≤ M.2.2.1 := by rw [hsl as has, List.length_map]; exact hlen
  have hl := lv_entry (as.map (q_tV g)) hle
  have hts : ∀ w ∈ q_ws M, w.before (as.map (q_tV g)).toArray s = true := atoms_spec (ws := q_ws M) B.pre
  have hX : q_Cx g M p s m (as.map (q_tV g)).toArray meth c := by
    refine ⟨B.exec, B.bytes, hml, findClass_of_methodNamed B.named, fun w hw => hts w (List.mem_cons_of_mem _ hw), B.returns, B.notSynchronized, hK, ?_, (name_of_methodNamed B.named B.method).1⟩
    rw [hh]
    cases ht : c.exceptionTable.toList with
    | nil => rfl
    | cons x l => exact absurd (htab x (by rw [ht]; exact List.mem_cons_self)) id
  rw [lg_entry_eq]
  refine hW hR.1 p e s m _ below meth c s.heap [] _ hX hR va_S.rf ⟨hl.1, by simp; omega, hl.2.1, ?_⟩
  intro i v hi hu
  rw [hsl as has]
  by_cases hi2 : i < as.length
  · rw [List.getElem?_append_left hi2] at hi
    simp only [List.getElem?_toArray]
    rw [List.getElem?_append_left (by rw [List.length_map]; exact hi2), List.getElem?_map, hi]
    rfl
  · rw [List.getElem?_append_right (by omega)] at hi
    exact absurd (List.eq_of_mem_replicate (List.mem_of_getElem? hi)) hu
end PVD
