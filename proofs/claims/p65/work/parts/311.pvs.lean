/-! strings: the law's constants are old cells; bytes copied out of them; byte rows cloned -/
theorem kX_clone1 : Cond.native ⟨"java/lang/Object", "clone", "()Ljava/lang/Object;"⟩ ∈ q_WS := q_mem 705 (by decide +kernel) (by decide +kernel)
theorem kX_clone2 : Cond.instanceMethod ⟨"java/lang/Object", "clone", "()Ljava/lang/Object;"⟩ ∈ q_WS := q_mem 706 (by decide +kernel) (by decide +kernel)
theorem kX_clone3 : Cond.castable "[B" "java/lang/Cloneable" ∈ lw_tbl := q_memL 708 (by decide +kernel)
section PVS
variable {g : q_G} {M : q_M} {d mc ms : Nat} {Q : q_O → q_H → Prop} {kc ks pc : Nat} {ls st : List Value} {h : q_H}
theorem q_copyO {own : String} {idx i j n0 n1 : Nat} {f f1 : Nat → Int32} {sp dp n : Int32} (hl : Cond.methodLink own idx arraycopyName ∈ q_WS) (hnat : Cond.native arraycopyName ∈ q_WS) (hstat : Cond.static arraycopyName ∈ q_WS) (hini : Cond.initialized "java/lang/System" ∈ q_WS) (ho : M.1.cls = own)
    (hi : i < q_R0) (har : q_ar g i = some (.byte, n0, fun j => .int (f j))) (hc1 : h.2 j = some (.inl (3, n1, .inl f1)))
    (h1 : ¬ sp < 0) (h2 : ¬ dp < 0) (h3 : ¬ n < 0) (h4 : sp.toNatClampNeg + n.toNatClampNeg ≤ n0) (h5 : dp.toNatClampNeg + n.toNatClampNeg ≤ n1) (hfit : ∀ k, k < n.toNatClampNeg → fits .byte (.int (f (sp.toNatClampNeg + k))) = true)
    (hst : st.length ≤ 4) (hdd : 1 ≤ d) (hd : decode M.2.1 pc = .ok (.invokestatic idx, 3))
    (kk : q_W g M d mc ms Q kc ks (pc + 3) ls st (q_set h j (.inl (3, n1, .inl (va_cpy f f1 sp.toNatClampNeg dp.toNatClampNeg n.toNatClampNeg))))) : q_W g M d mc ms Q kc ks pc ls (.int n :: .int dp :: .ref j :: .int sp :: .ref i :: st) h := by
  have nn : ∀ z : Int32, ¬ z < 0 → z.toInt = (z.toNatClampNeg : Int) := by
    intro z hz
    have hz0 : (0 : Int) ≤ z.toInt := by
      have := Int32.not_lt.mp hz
      simpa using Int32.le_iff_toInt_le.mp this
    show z.toInt = ((z.toInt.toNat : Nat) : Int)
    omega
  intro p e s m args below meth c H locs mls X hR hS hL T hT Y
  have hts := q_hWS X.2.2.2.2.1
  have hK := X.2.2.2.2.2.2.2.1
  obtain ⟨b0, hb0, scr, hs1, hs2, hs3, hs4, -, hs5, hs7⟩ := hK.2.2.2.2.2.2.2.1 i _ _ _ har
  have hs5 : ∀ j, j < n0 → scr.slots[j]? = some (Value.int (f j)) := hs5
  obtain ⟨j1, -, j3⟩ := hR.2.2 j _ hc1
  have hcs : H[b0]? = some scr := by rw [hS.2.1 b0 (Array.getElem?_eq_some_iff.mp hs1).1 hs7]; exact hs1
  have hcd : H[q_ad g j]? = some (vp_cell (g.2.2.2.1 3) (n1, .inl f1)) := j3
  obtain ⟨hs6, k0, hk0, cm0, hkk0⟩ := hs2
  obtain ⟨-, k1, hk1, cm1, hkk1⟩ := (hK.1.2 3 (g.2.2.2.1 3, .byte) rfl).1 n1 (fun j => .int (f1 j))
  have h8 := q_rest2 (g := g) hst
  obtain ⟨vm', Y', step⟩ := Y.arraycopy X.1 (own := own) (by rw [← ho]; exact X.2.2.2.1) (hts _ hl) (hts _ hnat) (hts _ hstat) (hts _ hini) (src := b0) (dst := q_ad g j) (cs := scr) (cd := vp_cell (g.2.2.2.1 3) (n1, .inl f1)) (srcPos := sp) (destPos := dp) (n := n) (by rw [hT]; exact hcs) (by rw [hT]; exact hcd)
    hs6 (fun _ h => by cases h) hs3 (fun h => by cases h) hk0 hk1 hkk0 hkk1 (by simp [refKind]) h1 h2 h3
    (by rw [nn sp h1, nn n h3]; omega)
    (by rw [nn dp h2, nn n h3]; show ¬ _ > ((arrV (g.2.2.2.1 3) n1 (fun j => .int (f1 j))).slots.size : Int); rw [arrV_size]; omega)
    (fun vm₁ _ k hk => by
      have e : scr.slots.getD (sp.toNatClampNeg + k) .null = .int (f (sp.toNatClampNeg + k)) := by
        rw [Array.getD_eq_getD_getElem?, hs5 _ (by omega)]
        rfl
      exact ⟨by rw [e]; exact hfit k hk, by rw [e]; exact trivial⟩)
    (g := F0 m pc mls ((Value.int n :: .int dp :: .ref j :: .int sp :: .ref i :: st).map (q_tV g))) rfl (by show mls.size = _; rw [hL.1, X.2.2.1]) (rest := st.map (q_tV g)) (by
      show (Value.int n :: .int dp :: .ref j :: .int sp :: .ref i :: st).map (q_tV g) = _
      rw [List.map_cons, List.map_cons, List.map_cons, List.map_cons, List.map_cons, q_tV_old hi, hb0, q_tV_ref j1]
      rfl) (by rw [X.2.1]; exact hd) hdd (by
      show 2 * 0 + _ + ((5 + 2) + 11) ≤ 50 * d
      omega)
  have e1 : copied scr (vp_cell (g.2.2.2.1 3) (n1, .inl f1)) sp dp n = vp_cell (g.2.2.2.1 3) (n1, .inl (va_cpy f f1 sp.toNatClampNeg dp.toNatClampNeg n.toNatClampNeg)) := va_copiedX (fun z => .int z) scr _ f f1 hs5 h4
  rw [e1] at Y' step
  generalize hcell : vp_cell (g.2.2.2.1 3) (n1, .inl (va_cpy f f1 sp.toNatClampNeg dp.toNatClampNeg n.toNatClampNeg)) = cell at Y' step
  have hl9 : q_ad g j < H.size := (Array.getElem?_eq_some_iff.mp hcd).1
  have hheap : ((T.setVm vm').setCell (q_ad g j) cell).heap = H.setIfInBounds (q_ad g j) cell := by rw [← hT]; rfl
  have oq : ∀ q : Nat, q ≠ q_ad g j → (H.setIfInBounds (q_ad g j) cell)[q]? = H[q]? := fun q hq => by simp [Array.getElem?_setIfInBounds, Ne.symm hq]
  obtain ⟨t2, a1, b1⟩ := kk p e s m args below meth c (H.setIfInBounds (q_ad g j) cell) _ mls X (hR.upd hc1 (by simp) (by
      show (H.setIfInBounds (q_ad g j) cell)[q_ad g j]? = some (vp_cell (g.2.2.2.1 3) (n1, .inl (va_cpy f f1 sp.toNatClampNeg dp.toNatClampNeg n.toNatClampNeg)))
      rw [hcell]
      simp [Array.getElem?_setIfInBounds, hl9]) oq) ⟨by simp; exact hS.1, fun q g1 g2 => by
      rw [oq q (fun e => g2 (by rw [e]; exact q_A_of))]
      exact hS.2.1 q g1 g2, fun q hq => by
      rcases List.mem_append.mp hq with h | h
      · exact hS.2.2 q h
      · obtain ⟨z, -, hz⟩ := List.mem_map.mp h
        rw [← hz]
        exact q_A_of⟩ hL _ hheap Y'
  exact ⟨t2, step t2 a1, b1⟩
/-- a String constant of the law's -/
theorem q_ldcS {k idx : Nat} (hk : k < 8) (hix : (q_si k).1 = idx) (ho : M.1.cls = "ArgumentMapLaw") (hd : decode M.2.1 pc = .ok (.ldc idx, 2)) (kk : q_W g M d mc ms Q kc ks (pc + 2) ls (.ref (14 + k) :: st) h) : q_W g M d mc ms Q kc ks pc ls st h := by
  subst hix
  intro p e s m args below meth c H locs mls X hR hS hL
  obtain ⟨a, e0, -, -, -, r⟩ := X.2.2.2.2.2.2.2.1.2.2.2.2.2.2.2.2.2.1 k (by omega)
  have k2 := kk p e s m args below meth c H locs mls X hR hS hL
  rw [List.map_cons, q_tV_old (show 14 + k < q_R0 by rw [q_R0e]; omega), e0] at k2
  exact va_ldcS X.1 X.2.1 (own := "ArgumentMapLaw") (by rw [← ho]; exact X.2.2.2.1) (r hk) hd k2
/-- a row of bytes, cloned -/
theorem q_cloneB {own : String} {idx i n0 : Nat} {f : Nat → Int32} (hlink : Cond.methodLink own idx ⟨"[B", "clone", "()Ljava/lang/Object;"⟩ ∈ q_WS) (hsame : Cond.sameMethod "[B" "java/lang/Object" "clone" "()Ljava/lang/Object;" ∈ q_WS)
    (hnat : Cond.native ⟨"java/lang/Object", "clone", "()Ljava/lang/Object;"⟩ ∈ q_WS) (hinst : Cond.instanceMethod ⟨"java/lang/Object", "clone", "()Ljava/lang/Object;"⟩ ∈ q_WS)
    (hsel : Cond.selects "[B" ⟨"[B", "clone", "()Ljava/lang/Object;"⟩ ⟨"java/lang/Object", "clone", "()Ljava/lang/Object;"⟩ ∈ q_WS) (hcl : Cond.castable "[B" "java/lang/Cloneable" ∈ lw_tbl) (ho : M.1.cls = own)
    (hc : h.2 i = some (.inl (3, n0, .inl f))) (hfit : ∀ k, k < n0 → fits .byte (.int (f k)) = true) (hst : st.length ≤ 4) (hdd : 1 ≤ d) (hmc : kc + 1 ≤ mc) (hms : ks + n0 ≤ ms) (hd : decode M.2.1 pc = .ok (.invokevirtual idx, 3))
    (kk : q_W g M d mc ms Q (kc + 1) (ks + n0) (pc + 3) ls (.ref h.1 :: st) (q_push h (.inl (3, n0, .inl f)))) : q_W g M d mc ms Q kc ks pc ls (.ref i :: st) h := by
  intro p e s m args below meth c H locs mls X hR hS hL
  have hts := q_hWS X.2.2.2.2.1
  have hK := X.2.2.2.2.2.2.2.1
  obtain ⟨i1, -, i3⟩ := hR.2.2 i _ hc
  have hcH : H[q_ad g i]? = some (arrV (g.2.2.2.1 3) n0 (fun j => .int (f j))) := i3
  have hnm : s.vm.findClass "[B" = some (g.2.2.2.1 3) := (hK.1.2 3 (g.2.2.2.1 3, .byte) rfl).2
  obtain ⟨c0, t0', f1, f2, f3⟩ := Cond.castable_spec (va_Nw.use (A := args) rfl (hK.2.2.2.2.2.1.2.2.1 _ _ hcl))
  cases hnm.symm.trans f1
  have h8 := q_rest2 (g := g) hst
  have h1 := hR.1
  intro T hT Y
  have hcellT : T.heap[q_ad g i]? = some (arrV (g.2.2.2.1 3) n0 (fun j => .int (f j))) := by rw [hT]; exact hcH
  obtain ⟨-, kA, hkA, comp, hkind⟩ := State.isArrayOf_alike Y.warmed.alike ((hK.1.2 3 (g.2.2.2.1 3, .byte) rfl).1 0 (fun _ => .null))
  obtain ⟨-, kS, hkS, compS, hkindS⟩ := (hK.1.2 3 (g.2.2.2.1 3, .byte) rfl).1 0 (fun _ => .null)
  obtain ⟨vm', Y', step⟩ := Y.cloneArray X.1 (own := own) (by rw [← ho]; exact X.2.2.2.1) (hts _ hlink) (hts _ hsame) (hts _ hnat) (hts _ hinst) (hts _ hsel) (a := q_ad g i) (cell := arrV (g.2.2.2.1 3) n0 (fun j => .int (f j))) hcellT (fun k h => by cases h) (fun h => by cases h) hnm f2 f3
    (fun k v hv => by
      have hk' : T.vm.classes[(arrV (g.2.2.2.1 3) n0 (fun j => Value.int (f j))).cls]? = some kA := hkA
      have hv2 : v = .int (f k) ∧ k < n0 := by
        by_cases hl : k < n0
        · have := arrV_read (g.2.2.2.1 3) (fun j => Value.int (f j)) hl
          rw [this] at hv
          exact ⟨(Option.some.inj hv).symm, hl⟩
        · rw [Array.getElem?_eq_none (by rw [arrV_size]; omega)] at hv
          cases hv
      obtain ⟨rfl, hl⟩ := hv2
      have := hfit k hl
      simpa [State.fitsSlot, State.slotType?, hk', hkind] using this)
    (g := F0 m pc mls ((Value.ref i :: st).map (q_tV g))) rfl (by show mls.size = _; rw [hL.1, X.2.2.1]) (by
      show (Value.ref i :: st).map (q_tV g) = _
      rw [List.map_cons, q_tV_ref i1]) (by rw [X.2.1]; exact hd) hdd (by show 2 * 0 + _ + 14 ≤ 50 * d; omega) hmc (by rw [arrV_size]; exact hms) (hloader := Vm.clonesLoader_of_array hkS hkindS)
  have hcellE : ({ cls := (arrV (g.2.2.2.1 3) n0 (fun j => Value.int (f j))).cls, slots := (arrV (g.2.2.2.1 3) n0 (fun j => Value.int (f j))).slots } : Cell) = arrV (g.2.2.2.1 3) n0 (fun j => .int (f j)) := rfl
  rw [arrV_size] at Y'
  generalize hH1 : H.push (arrV (g.2.2.2.1 3) n0 (fun j => Value.int (f j))) = H1
  have z1 : H1.size = H.size + 1 := by rw [← hH1, Array.size_push]
  have e1 : H1[H.size]? = some (arrV (g.2.2.2.1 3) n0 (fun j => Value.int (f j))) := by rw [← hH1, Array.getElem?_push_size]
  have o1 : ∀ q : Nat, q < H.size → H1[q]? = H[q]? := fun q hq => by rw [← hH1, Array.getElem?_push, if_neg (Nat.ne_of_lt hq)]
  have k2 := kk p e s m args below meth c H1 locs mls X (hR.pushed (c := .inl (3, n0, .inl f)) z1 (by
    rw [← hR.2.1]
    exact e1) o1) ⟨Nat.le_trans hS.1 (by omega), fun x q1 q2 => (o1 x (Nat.lt_of_lt_of_le q1 hS.1)).trans (hS.2.1 x q1 q2), hS.2.2⟩ hL
  rw [List.map_cons, q_tV_ref h1, ← hR.2.1] at k2
  obtain ⟨t, b1, b2⟩ := k2 ((T.setVm vm').pushCell (arrV (g.2.2.2.1 3) n0 (fun j => Value.int (f j)))) (by rw [← hH1, ← hT]; rfl) Y'
  refine ⟨t, step t ?_, b2⟩
  rw [hcellE, hT]
  exact b1
theorem q_castB {own : String} {idx i n0 : Nat} {f : Nat → Int32} (hlink : Cond.classLink own idx "[B" ∈ q_WS) (ho : M.1.cls = own) (hc : h.2 i = some (.inl (3, n0, .inl f))) (hd : decode M.2.1 pc = .ok (.checkcast idx, 3))
    (kk : q_W g M d mc ms Q kc ks (pc + 3) ls (.ref i :: st) h) : q_W g M d mc ms Q kc ks pc ls (.ref i :: st) h := by
  intro p e s m args below meth c H locs mls X hR hS hL
  have hts := q_hWS X.2.2.2.2.1
  have hK := X.2.2.2.2.2.2.2.1
  obtain ⟨i1, -, i3⟩ := hR.2.2 i _ hc
  have hnm : s.vm.findClass "[B" = some (g.2.2.2.1 3) := (hK.1.2 3 (g.2.2.2.1 3, .byte) rfl).2
  have k2 := kk p e s m args below meth c H locs mls X hR hS hL
  rw [List.map_cons, q_tV_ref i1] at k2 ⊢
  exact va_castA X.1 X.2.1 (own := own) (nm := "[B") (by rw [← ho]; exact X.2.2.2.1) (hts _ hlink) (q_P1 i3) 0 rfl hnm hd k2
theorem q_alenO {k : Nat} (hk : k < 11) (hd : decode M.2.1 pc = .ok (.arraylength, 1)) (kk : q_W g M d mc ms Q kc ks (pc + 1) ls (.int (nI (q_pat k).length) :: st) h) : q_W g M d mc ms Q kc ks pc ls (.ref (25 + k) :: st) h := q_tlenP hk hd kk
/-- a local that holds an old object of ours or a cell -/
theorem q_aload_nS {k : Fin 4} {x : Nat} (hx : (3 ≤ x ∧ x < 36) ∨ q_R0 ≤ x) (hd : decode M.2.1 pc = .ok (.aload_n k, 1)) (hl : ls[(k : Nat)]? = some (.ref x)) (kk : q_W g M d mc ms Q kc ks (pc + 1) ls (.ref x :: st) h) : q_W g M d mc ms Q kc ks pc ls st h := by
  rcases hx with hx | hx
  · exact q_aload_nK hx hd hl kk
  · exact q_aload_n hx hd hl kk
theorem q_aloadS {k : Nat} {x : Nat} (hx : (3 ≤ x ∧ x < 36) ∨ q_R0 ≤ x) (hd : decode M.2.1 pc = .ok (.aload k, 2)) (hl : ls[k]? = some (.ref x)) (kk : q_W g M d mc ms Q kc ks (pc + 2) ls (.ref x :: st) h) : q_W g M d mc ms Q kc ks pc ls st h := by
  rcases hx with hx | hx
  · exact q_aloadK hx hd hl kk
  · exact q_aload hx hd hl kk
theorem q_tV_S {U : State} (hK : q_K g U) {x : Nat} (hx : (3 ≤ x ∧ x < 36) ∨ q_R0 ≤ x) : ∃ a : Nat, q_tV g (.ref x) = .ref a := by
  rcases hx with hx | hx
  · obtain ⟨h1, a, e⟩ := hK.old hx
    exact ⟨a, (q_tV_old h1).trans e⟩
  · exact ⟨_, q_tV_ref hx⟩
theorem q_ifnonnull {x tgt : Nat} {off : Int} (hx : (3 ≤ x ∧ x < 36) ∨ q_R0 ≤ x) (hd : decode M.2.1 pc = .ok (.ifnonnull off, 3)) (ht : (pc : Int) + off = (tgt : Int)) (kk : q_W g M d mc ms Q kc ks tgt ls st h) : q_W g M d mc ms Q kc ks pc ls (.ref x :: st) h := by
  intro p e s m args below meth c H locs mls X hR hS hL
  obtain ⟨a, e1⟩ := q_tV_S X.2.2.2.2.2.2.2.1 hx
  have k2 := kk p e s m args below meth c H locs mls X hR hS hL
  rw [List.map_cons, e1]
  exact lv_ifnonnull X.1 X.2.1 hd ht k2
/-- an overriding method -/
theorem q_invO {M' M0 : q_M} {d' mc' ms' : Nat} {Q' : q_O → q_H → Prop} {as stk fs : List Value} {own C : String} {T : u_T} {N idx n i ci : Nat}
    (hd : decode M.2.1 pc = .ok (.invokevirtual idx, 3)) (hk : q_isM M' n) (hk0 : q_isM M0 n)
    (hl : Cond.methodLink own idx M0.1 ∈ q_WS) (hsm : Cond.sameMethod M0.1.cls M0.1.cls M0.1.name M0.1.desc ∈ q_WS) (hin0 : Cond.instanceMethod M0.1 ∈ q_WS) (hin : Cond.instanceMethod M'.1 ∈ q_WS) (hse : Cond.selects C M0.1 M'.1 ∈ q_WS) (ho : M.1.cls = own) (hcl : vwCl[ci]? = some (C, T, N))
    (hc : h.2 i = some (.inr (ci, fs))) (hstk : stk = as.reverse ++ .ref i :: st) (hn : as.length = n) (h4 : st.length ≤ 4) (hdd : d' + 1 ≤ d) (hml : M'.2.2.1 ≤ 31) (hmc : kc + mc' ≤ mc) (hms : ks + ms' ≤ ms)
    (sp : q_Spec g M' d' mc' ms' (.ref i :: as) h Q')
    (kk : ∀ v h1, Q' (.inl v) h1 → q_W g M d mc ms Q (kc + mc') (ks + ms') (pc + 3) ls (v.toList ++ st) h1)
    (kx : ∀ E h1, Q' (.inr E) h1 → q_X g M d mc ms Q E (kc + mc') (ks + ms') pc ls st h1) : q_W g M d mc ms Q kc ks pc ls stk h := by
  intro p e s m args below meth c H locs mls X hR hS hL
  obtain ⟨i1, i2, i3⟩ := hR.2.2 i _ hc
  have hts := q_hWS X.2.2.2.2.1
  have hK := X.2.2.2.2.2.2.2.1
  have hown : s.vm.findClass own = some m.cls := by rw [← ho]; exact X.2.2.2.1
  have hpre := fun U hU hW => q_pre (as := .ref i :: as) hK hR hS U hU hW
  rw [List.map_cons, q_tV_ref i1] at hpre
  have hT : GoodIn (q_WS) (va_wsO own idx C M0.1.cls M0.1 M'.1 (q_ws M')) := by
    intro w hw
    have hm : w ∈ q_WS := by
      rcases List.mem_append.mp hw with h1 | h1
      · simp only [List.mem_cons, List.not_mem_nil, or_false] at h1
        rcases h1 with rfl | rfl | rfl | rfl | rfl | rfl
        · exact hl
        · exact hsm
        · exact hin0
        · exact hse
        · exact hin
        · exact hk.2.2.2.2
      · rcases List.mem_cons.mp h1 with rfl | h1
        · exact hk.2.2.2.1
        · exact h1
    exact ⟨hm, good_of_word (List.mem_filter.mp hm).2⟩
  have h0 := hk0.2.2.2.1
  rw [q_cw_code hk0.1] at h0
  have cw : va_CU (q_rm d mc ms) s args own C M0.1.cls idx M0.1 M'.1 M'.2.1 M'.2.2.1 M'.2.2.2.1 (q_ws M') (q_rm d' mc' ms') mc' ms' n :=
    va_cwO (ws' := q_WS) n hts hT (by rw [q_ws, q_cw_code hk.1]) rfl rfl h0 ⟨hk0.2.1.1, hk0.2.1.2, hk0.2.2.1⟩ ⟨hdd, by show 8 + (M'.2.2.1 + 11) + 50 * d' ≤ 50 * d; omega⟩
  refine q_cont (vx_runU (C := C) (As := as.map (q_tV g)) (rest := st.map (q_tV g)) ⟨X.1, X.2.1, X.2.2.1, hown, hts⟩ sp cw ⟨q_blind, va_recv (q0 := 0) (fs := fs.map (q_tV g)) hK.1 (q_P1 i3) hcl rfl, hpre⟩ rfl (by rw [List.length_map]; exact hn) hL.1 (q_args i1 hstk) (q_rest h4) hd ⟨hmc, hms⟩) hS ?_ ?_
  · intro v h1 H1 locs1 hq hR1 hS1
    rw [← q_toList]
    exact kk v h1 hq p e s m args below meth c H1 locs1 mls X hR1 hS1 hL
  · intro E h1 H1 locs1 q9 ce hq hR1 hS1 h9 hv hcl9
    exact kx E h1 hq p e s m args below meth c H1 locs1 mls q9 ce X hR1 hS1 hL h9 hv hcl9
/-- a String: one of the law's constants, or a cell -/
def q_isS (h : q_H) (i : Nat) : Prop := (∃ k, k < 11 ∧ i = 14 + k) ∨ (q_R0 ≤ i ∧ ∃ fs, h.2 i = some (.inr (0, fs)))
theorem q_isS.lo {i : Nat} (z : q_isS h i) : (3 ≤ i ∧ i < 36) ∨ q_R0 ≤ i := by
  rcases z with ⟨k, hk, e⟩ | ⟨a, -⟩
  · exact Or.inl (by omega)
  · exact Or.inr a
/-- a method of a String -/
theorem q_invStr {M' : q_M} {d' mc' ms' : Nat} {Q' : q_O → q_H → Prop} {as stk : List Value} {own : String} {idx n i : Nat} (z : q_isS h i)
    (hd : decode M.2.1 pc = .ok (.invokevirtual idx, 3)) (hk : q_isM M' n) (hl : Cond.methodLink own idx M'.1 ∈ q_WS) (hin : Cond.instanceMethod M'.1 ∈ q_WS) (hse : Cond.selects RJ0 M'.1 M'.1 ∈ q_WS) (ho : M.1.cls = own)
    (hstk : stk = as.reverse ++ .ref i :: st) (hn : as.length = n) (h4 : st.length ≤ 4) (hdd : d' + 1 ≤ d) (hml : M'.2.2.1 ≤ 31) (hmc : kc + mc' ≤ mc) (hms : ks + ms' ≤ ms)
    (sp : q_Spec g M' d' mc' ms' (.ref i :: as) h Q')
    (kk : ∀ v h1, Q' (.inl v) h1 → q_W g M d mc ms Q (kc + mc') (ks + ms') (pc + 3) ls (v.toList ++ st) h1)
    (kx : ∀ E h1, Q' (.inr E) h1 → q_X g M d mc ms Q E (kc + mc') (ks + ms') pc ls st h1) : q_W g M d mc ms Q kc ks pc ls stk h := by
  rcases z with ⟨k, hk9, rfl⟩ | ⟨a, fs, hc⟩
  · exact q_invVO (C := RJ0) hd hk hl hin hse ho (by rw [q_R0e]; omega) (q_patO hk9) hstk hn h4 hdd hml hmc hms sp kk kx
  · exact q_invV hd hk hl hin hse ho (kC_J0.1) hc hstk hn h4 hdd hml hmc hms sp kk kx


end PVS
