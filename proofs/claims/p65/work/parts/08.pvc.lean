section PVC
variable {g : q_G} {M : q_M} {d mc ms : Nat} {Q : q_O → q_H → Prop} {kc ks pc : Nat} {ls st : List Value} {h : q_H}
theorem q_cw_code {M : q_M} (h : M.2.2.2.2 = []) : q_cw M = .code M.1 M.2.1 M.2.2.1 M.2.2.2.1 := by
  unfold q_cw
  rw [h]
theorem q_warm {args : Array Value} {s : State} {w : Cond} (hts : ∀ w ∈ q_WS, w.before args s = true) (hw : w ∈ q_WS) (a' : Array Value) (U : State) (hW : s.WarmedH U.vm) : w.before a' U = true :=
  word_at hW (good_of_word (List.mem_filter.mp hw).2) (hts w hw)
theorem q_cb {M' : q_M} {args : Array Value} {s : State} {own : String} {idx n d' mc' ms' : Nat} (hts : ∀ w ∈ q_WS, w.before args s = true) (hk : q_isM M' n) (hl : Cond.methodLink own idx M'.1 ∈ q_WS) (hdd : d' + 1 ≤ d) (hml : M'.2.2.1 ≤ 31) :
    CallB (q_rm d mc ms) s args own idx M'.1 M'.2.1 M'.2.2.1 M'.2.2.2.1 (q_ws M') (q_rm d' mc' ms') mc' ms' n := by
  obtain ⟨k1, k2, k3, k4, k5⟩ := hk
  refine ⟨rfl, rfl, hdd, by show 8 + (M'.2.2.1 + 11) + 50 * d' ≤ 50 * d; omega, fun w hw a' U hW => ?_, by rw [q_ws, q_cw_code k1]; exact List.mem_cons_self, by rw [← q_cw_code k1]; exact hts _ k4, hts _ k5, k2, fun sig hs => ?_, hts _ hl⟩
  · rcases List.mem_cons.mp hw with e | hw
    · rw [e]; exact q_warm hts k4 a' U hW
    · exact q_warm hts hw a' U hW
  · rw [hs] at k3
    exact (Option.some.inj k3).symm
theorem q_blind {as : List Value} : FrameBlind (q_Pc g as h) := fun a U f mk q =>
  ⟨q.1, q.2.1, q.2.2.to (t := U.calling f mk a) (State.WarmedH.refl U) q.2.2.2.1 (fun _ _ _ => rfl)⟩
theorem q_pre {as : List Value} {s : State} {H : Heap} {locs : List Loc} (hK : q_K g s) (hR : q_Rep g h H) (hS : va_S (q_A g) s.heap H locs) (U : State) (hU : U.heap = H) (hW : s.WarmedH U.vm) : q_Pc g as h (as.map (q_tV g)).toArray U :=
  ⟨rfl, by rw [hU]; exact hR, hK.to hW (by rw [hU]; exact Nat.le_trans hK.2.1 hS.1) (fun q h1 h2 => by rw [hU]; exact hS.2.1 q h1 h2)⟩
theorem q_cat_le (v : Value) : v.category ≤ 2 := by cases v <;> simp [Value.category]
theorem q_sum_le : ∀ (l : List Value), (l.map fun v => v.category).sum ≤ 2 * l.length
  | [] => Nat.le_refl _
  | v :: l => by
    have h1 := q_cat_le v
    have h2 := q_sum_le l
    simp only [List.map_cons, List.sum_cons, List.length_cons]
    omega
/-- something thrown over the frame -/
def q_X (g : q_G) (M : q_M) (d mc ms : Nat) (Q : q_O → q_H → Prop) (E : String) (kc ks pc : Nat) (ls st : List Value) (h : q_H) : Prop :=
  ∀ (p : Program) (e : Env) (s : State) (m : MethodId) (args : Array Value) (below : List Frame) (meth : Method) (c : Code) (H : Heap) (locs : List Loc) (mls : Array Slot) (q9 : Addr) (ce : Cell),
    q_Cx g M p s m args meth c → q_Rep g h H → va_S (q_A g) s.heap H locs → q_L g mls M.2.2.1 ls → H[q9]? = some ce → ce.vm = .none → s.vm.findClass E = some ce.cls →
    vx_W p g.1 e (q_rm d mc ms) s m args below meth c H locs kc ks (vx_MQ below (q_Qc g Q) (q_XC g Q) args s mc ms (q_A g)) (F0 m pc mls (st.map (q_tV g))) q9
theorem q_xout {E : String} (hh : M.2.2.2.2 = []) (hq : Q (.inr E) h) (hc : kc ≤ mc) (hs : ks ≤ ms) : q_X g M d mc ms Q E kc ks pc ls st h := by
  intro p e s m args below meth c H locs mls q9 ce X hR hS hL h9 hv hcl
  refine vx_out (E := E) (ce := ce) ?_ X.2.2.2.2.2.2.1 h9 hv hcl (fun t ht _ => ⟨h, hq, by rw [ht]; exact hR, hS.F ht⟩) hS.2.2 hc hs
  intro x hx
  rw [X.2.2.2.2.2.2.2.2.1, hh] at hx
  cases hx
theorem q_cont {p : Program} {e : Env} {s : State} {m : MethodId} {args : Array Value} {below : List Frame} {meth : Method} {c : Code} {H : Heap} {locs : List Loc} {R : Room} {QW : State → Prop} {mc' ms' : Nat} {Q' : q_O → q_H → Prop} {a : Array Value} {mls : Array Slot} {st0 rest : List Value}
    (hr : vx_Run p g.1 e R s m args below meth c H locs kc ks mc' ms' (F0 m pc mls st0) rest (q_Qc g Q' a) (q_XC g Q') (q_A g)) (hS : va_S (q_A g) s.heap H locs)
    (kk : ∀ v h1 H1 locs1, Q' (.inl v) h1 → q_Rep g h1 H1 → va_S (q_A g) s.heap H1 locs1 → W p g.1 e R s m args below meth c H1 locs1 (kc + mc') (ks + ms') QW (F0 m (pc + 3) mls ((v.map (q_tV g)).toList ++ rest)))
    (kx : ∀ E h1 H1 locs1 q9 ce, Q' (.inr E) h1 → q_Rep g h1 H1 → va_S (q_A g) s.heap H1 locs1 → H1[q9]? = some ce → ce.vm = .none → s.vm.findClass E = some ce.cls → vx_W p g.1 e R s m args below meth c H1 locs1 (kc + mc') (ks + ms') QW (F0 m pc mls rest) q9) :
    W p g.1 e R s m args below meth c H locs kc ks QW (F0 m pc mls st0) := by
  intro T hT X
  have key : ∀ (st₀ t T' : State) (L : List Loc), st₀.heap = H → (∀ q ∈ L, q_A g q.base) → T'.heap = t.heap → va_F (q_A g) st₀ t → va_S (q_A g) s.heap T'.heap (locs ++ L) := by
    intro st₀ t T' L h0 hL e1 hF
    refine ⟨Nat.le_trans hS.1 (by rw [e1, ← h0]; exact hF.1), fun q h1 h2 => ?_, fun q hq => ?_⟩
    · rw [e1, hF.2 q (by rw [h0]; exact Nat.lt_of_lt_of_le h1 hS.1) h2, h0]
      exact hS.2.1 q h1 h2
    · rcases List.mem_append.mp hq with h | h
      · exact hS.2.2 q h
      · exact hL q h
  rcases hr T hT X with ⟨v, st₀, t, T', L, h0, X', hL, e1, e2, ⟨w, h1, hv, hq, hRep, hF⟩, hg⟩ | ⟨q9, st₀, t, T', L, E, ce, h0, X', hL, e1, e2, ⟨h1, hq, hRep, hF⟩, hce, hvm, hcl, hst⟩
  · cases hv
    obtain ⟨t2, a1, b1⟩ := kk w h1 T'.heap (locs ++ L) hq (by rw [e1]; exact hRep) (key _ _ _ _ h0 hL e1 hF) T' rfl X'
    exact ⟨t2, hg t2 a1, b1⟩
  · obtain ⟨t2, a1, b1⟩ := kx E h1 T'.heap (locs ++ L) q9 ce hq (by rw [e1]; exact hRep) (key _ _ _ _ h0 hL e1 hF) (by rw [e1]; exact hce) hvm hcl T' rfl X'
    exact ⟨t2, hst.trans a1, b1⟩
theorem q_toList {v : Option Value} {st : List Value} : (v.toList ++ st).map (q_tV g) = (v.map (q_tV g)).toList ++ st.map (q_tV g) := by
  cases v <;> simp
theorem q_args {as : List Value} {i : Nat} {stk st : List Value} (hi : q_R0 ≤ i) (hk : stk = as.reverse ++ .ref i :: st) : stk.map (q_tV g) = (as.map (q_tV g)).reverse ++ .ref (q_ad g i) :: st.map (q_tV g) := by
  rw [hk, List.map_append, List.map_reverse, List.map_cons, q_tV_ref hi]
theorem q_argsS {as : List Value} {stk st : List Value} (hk : stk = as.reverse ++ st) : stk.map (q_tV g) = (as.map (q_tV g)).reverse ++ st.map (q_tV g) := by
  rw [hk, List.map_append, List.map_reverse]
theorem q_rest {mls : Array Slot} {m : MethodId} {st0 : List Value} (h4 : st.length ≤ 4) : 2 * (F0 m pc mls st0).monitorRoom + ((st.map (q_tV g)).map fun v => v.category).sum ≤ 8 :=
  lv_room (Nat.le_trans (q_sum_le _) (by rw [List.length_map]; omega))
/-- a virtual call of a method that the receiver's class has itself -/
theorem q_invV {M' : q_M} {d' mc' ms' : Nat} {Q' : q_O → q_H → Prop} {as stk fs : List Value} {own C : String} {T : u_T} {N idx n i ci : Nat}
    (hd : decode M.2.1 pc = .ok (.invokevirtual idx, 3)) (hk : q_isM M' n) (hl : Cond.methodLink own idx M'.1 ∈ q_WS) (hin : Cond.instanceMethod M'.1 ∈ q_WS) (hse : Cond.selects C M'.1 M'.1 ∈ q_WS) (ho : M.1.cls = own) (hcl : vwCl[ci]? = some (C, T, N))
    (hc : h.2 i = some (.inr (ci, fs))) (hstk : stk = as.reverse ++ .ref i :: st) (hn : as.length = n) (h4 : st.length ≤ 4) (hdd : d' + 1 ≤ d) (hml : M'.2.2.1 ≤ 31) (hmc : kc + mc' ≤ mc) (hms : ks + ms' ≤ ms)
    (sp : q_Spec g M' d' mc' ms' (.ref i :: as) h Q')
    (kk : ∀ v h1, Q' (.inl v) h1 → q_W g M d mc ms Q (kc + mc') (ks + ms') (pc + 3) ls (v.toList ++ st) h1)
    (kx : ∀ E h1, Q' (.inr E) h1 → q_X g M d mc ms Q E (kc + mc') (ks + ms') pc ls st h1) : q_W g M d mc ms Q kc ks pc ls stk h := by
  intro p e s m args below meth c H locs mls X hR hS hL
  obtain ⟨i1, i2, i3⟩ := hR.2.2 i _ hc
  have hts := q_hWS X.2.2.2.2.1
  have hK := X.2.2.2.2.2.2.2.1
  have hown : s.vm.findClass own = some m.cls := by rw [← ho]; exact X.2.2.2.1
  have hpre := fun U hU hW => q_pre (as := .ref i :: as) hK hR hS U hU hW
  rw [List.map_cons, q_tV_ref i1] at hpre
  refine q_cont (vx_runV (C := C) (As := as.map (q_tV g)) (rest := st.map (q_tV g)) ⟨X.1, X.2.1, X.2.2.1, hown, hts⟩ sp ⟨q_cb hts hk hl hdd hml, hts _ hin, hts _ hse⟩ ⟨q_blind, va_recv (q0 := 0) (fs := fs.map (q_tV g)) hK.1 (q_P1 i3) hcl rfl, hpre⟩ rfl (by rw [List.length_map]; exact hn) hL.1 (q_args i1 hstk) (q_rest h4) hd ⟨hmc, hms⟩) hS ?_ ?_
  · intro v h1 H1 locs1 hq hR1 hS1
    rw [← q_toList]
    exact kk v h1 hq p e s m args below meth c H1 locs1 mls X hR1 hS1 hL
  · intro E h1 H1 locs1 q9 ce hq hR1 hS1 h9 hv hcl9
    exact kx E h1 hq p e s m args below meth c H1 locs1 mls q9 ce X hR1 hS1 hL h9 hv hcl9
/-- .. of a private method of a nest mate -/
theorem q_invVN {M' : q_M} {d' mc' ms' : Nat} {Q' : q_O → q_H → Prop} {as stk fs : List Value} {own host C : String} {T : u_T} {N idx n i ci : Nat}
    (hd : decode M.2.1 pc = .ok (.invokevirtual idx, 3)) (hk : q_isM M' n) (hl : Cond.methodLinkNest own idx M'.1 host ∈ lw_tbl) (hin : Cond.instanceMethod M'.1 ∈ q_WS) (hse : Cond.selects C M'.1 M'.1 ∈ q_WS) (ho : M.1.cls = own) (hcl : vwCl[ci]? = some (C, T, N))
    (hc : h.2 i = some (.inr (ci, fs))) (hstk : stk = as.reverse ++ .ref i :: st) (hn : as.length = n) (h4 : st.length ≤ 4) (hdd : d' + 1 ≤ d) (hml : M'.2.2.1 ≤ 31) (hmc : kc + mc' ≤ mc) (hms : ks + ms' ≤ ms)
    (sp : q_Spec g M' d' mc' ms' (.ref i :: as) h Q')
    (kk : ∀ v h1, Q' (.inl v) h1 → q_W g M d mc ms Q (kc + mc') (ks + ms') (pc + 3) ls (v.toList ++ st) h1)
    (kx : ∀ E h1, Q' (.inr E) h1 → q_X g M d mc ms Q E (kc + mc') (ks + ms') pc ls st h1) : q_W g M d mc ms Q kc ks pc ls stk h := by
  intro p e s m args below meth c H locs mls X hR hS hL
  obtain ⟨i1, i2, i3⟩ := hR.2.2 i _ hc
  have hts := q_hWS X.2.2.2.2.1
  have hK := X.2.2.2.2.2.2.2.1
  have hown : s.vm.findClass own = some m.cls := by rw [← ho]; exact X.2.2.2.1
  have hpre := fun U hU hW => q_pre (as := .ref i :: as) hK hR hS U hU hW
  rw [List.map_cons, q_tV_ref i1] at hpre
  have cb : va_CN (q_rm d mc ms) s args own idx M'.1 host M'.2.1 M'.2.2.1 M'.2.2.2.1 (q_ws M') (q_rm d' mc' ms') mc' ms' n := by
    obtain ⟨k1, k2, k3, k4, k5⟩ := hk
    refine ⟨⟨rfl, rfl, hdd, by show 8 + (M'.2.2.1 + 11) + 50 * d' ≤ 50 * d; omega, fun w hw a' U hW => ?_, by rw [q_ws, q_cw_code k1]; exact List.mem_cons_self⟩, by rw [← q_cw_code k1]; exact hts _ k4, hts _ k5, k2, fun sig hs => ?_, va_Nw.use rfl (hK.2.2.2.2.2.1.1 _ _ _ _ hl)⟩
    · rcases List.mem_cons.mp hw with e | hw
      · rw [e]; exact q_warm hts k4 a' U hW
      · exact q_warm hts hw a' U hW
    · rw [hs] at k3
      exact (Option.some.inj k3).symm
  refine q_cont (vx_runVN (C := C) (As := as.map (q_tV g)) (rest := st.map (q_tV g)) ⟨X.1, X.2.1, X.2.2.1, hown, hts⟩ sp ⟨cb, hts _ hin, hts _ hse⟩ ⟨q_blind, va_recv (q0 := 0) (fs := fs.map (q_tV g)) hK.1 (q_P1 i3) hcl rfl, hpre⟩ rfl (by rw [List.length_map]; exact hn) hL.1 (q_args i1 hstk) (q_rest h4) hd ⟨hmc, hms⟩) hS ?_ ?_
  · intro v h1 H1 locs1 hq hR1 hS1
    rw [← q_toList]
    exact kk v h1 hq p e s m args below meth c H1 locs1 mls X hR1 hS1 hL
  · intro E h1 H1 locs1 q9 ce hq hR1 hS1 h9 hv hcl9
    exact kx E h1 hq p e s m args below meth c H1 locs1 mls q9 ce X hR1 hS1 hL h9 hv hcl9
/-- a static call -/
theorem q_invS {M' : q_M} {d' mc' ms' : Nat} {Q' : q_O → q_H → Prop} {as stk : List Value} {own : String} {idx n : Nat}
    (hd : decode M.2.1 pc = .ok (.invokestatic idx, 3)) (hk : q_isM M' n) (hl : Cond.methodLink own idx M'.1 ∈ q_WS) (hstat : Cond.static M'.1 ∈ q_WS) (ho : M.1.cls = own)
    (hstk : stk = as.reverse ++ st) (hn : as.length = n) (h4 : st.length ≤ 4) (hdd : d' + 1 ≤ d) (hml : M'.2.2.1 ≤ 31) (hmc : kc + mc' ≤ mc) (hms : ks + ms' ≤ ms)
    (sp : q_Spec g M' d' mc' ms' as h Q')
    (kk : ∀ v h1, Q' (.inl v) h1 → q_W g M d mc ms Q (kc + mc') (ks + ms') (pc + 3) ls (v.toList ++ st) h1)
    (kx : ∀ E h1, Q' (.inr E) h1 → q_X g M d mc ms Q E (kc + mc') (ks + ms') pc ls st h1) : q_W g M d mc ms Q kc ks pc ls stk h := by
  intro p e s m args below meth c H locs mls X hR hS hL
  have hts := q_hWS X.2.2.2.2.1
  have hK := X.2.2.2.2.2.2.2.1
  have hown : s.vm.findClass own = some m.cls := by rw [← ho]; exact X.2.2.2.1
  refine q_cont (vx_runS (As := as.map (q_tV g)) (rest := st.map (q_tV g)) ⟨X.1, X.2.1, X.2.2.1, hown, hts⟩ sp ⟨q_cb hts hk hl hdd hml, hts _ hstat⟩ ⟨q_blind, fun U hU hW => q_pre hK hR hS U hU hW⟩ rfl (by rw [List.length_map]; exact hn) hL.1 (q_argsS hstk) (q_rest h4) hd ⟨hmc, hms⟩) hS ?_ ?_
  · intro v h1 H1 locs1 hq hR1 hS1
    rw [← q_toList]
    exact kk v h1 hq p e s m args below meth c H1 locs1 mls X hR1 hS1 hL
  · intro E h1 H1 locs1 q9 ce hq hR1 hS1 h9 hv hcl9
    exact kx E h1 hq p e s m args below meth c H1 locs1 mls q9 ce X hR1 hS1 hL h9 hv hcl9
theorem q_invSN {M' : q_M} {d' mc' ms' : Nat} {Q' : q_O → q_H → Prop} {as stk : List Value} {own host : String} {idx n : Nat}
    (hd : decode M.2.1 pc = .ok (.invokestatic idx, 3)) (hk : q_isM M' n) (hl : Cond.methodLinkNest own idx M'.1 host ∈ lw_tbl) (hstat : Cond.static M'.1 ∈ q_WS) (ho : M.1.cls = own)
    (hstk : stk = as.reverse ++ st) (hn : as.length = n) (h4 : st.length ≤ 4) (hdd : d' + 1 ≤ d) (hml : M'.2.2.1 ≤ 31) (hmc : kc + mc' ≤ mc) (hms : ks + ms' ≤ ms)
    (sp : q_Spec g M' d' mc' ms' as h Q')
    (kk : ∀ v h1, Q' (.inl v) h1 → q_W g M d mc ms Q (kc + mc') (ks + ms') (pc + 3) ls (v.toList ++ st) h1)
    (kx : ∀ E h1, Q' (.inr E) h1 → q_X g M d mc ms Q E (kc + mc') (ks + ms') pc ls st h1) : q_W g M d mc ms Q kc ks pc ls stk h := by
  intro p e s m args below meth c H locs mls X hR hS hL
  have hts := q_hWS X.2.2.2.2.1
  have hK := X.2.2.2.2.2.2.2.1
  have hown : s.vm.findClass own = some m.cls := by rw [← ho]; exact X.2.2.2.1
  have cb : va_CN (q_rm d mc ms) s args own idx M'.1 host M'.2.1 M'.2.2.1 M'.2.2.2.1 (q_ws M') (q_rm d' mc' ms') mc' ms' n := by
    obtain ⟨k1, k2, k3, k4, k5⟩ := hk
    refine ⟨⟨rfl, rfl, hdd, by show 8 + (M'.2.2.1 + 11) + 50 * d' ≤ 50 * d; omega, fun w hw a' U hW => ?_, by rw [q_ws, q_cw_code k1]; exact List.mem_cons_self⟩, by rw [← q_cw_code k1]; exact hts _ k4, hts _ k5, k2, fun sig hs => ?_, va_Nw.use rfl (hK.2.2.2.2.2.1.1 _ _ _ _ hl)⟩
    · rcases List.mem_cons.mp hw with e | hw
      · rw [e]; exact q_warm hts k4 a' U hW
      · exact q_warm hts hw a' U hW
    · rw [hs] at k3
      exact (Option.some.inj k3).symm
  refine q_cont (vx_runSN (As := as.map (q_tV g)) (rest := st.map (q_tV g)) ⟨X.1, X.2.1, X.2.2.1, hown, hts⟩ sp ⟨cb, hts _ hstat, trivial⟩ ⟨q_blind, fun U hU hW => q_pre hK hR hS U hU hW⟩ rfl (by rw [List.length_map]; exact hn) hL.1 (q_argsS hstk) (q_rest h4) hd ⟨hmc, hms⟩) hS ?_ ?_
  · intro v h1 H1 locs1 hq hR1 hS1
    rw [← q_toList]
    exact kk v h1 hq p e s m args below meth c H1 locs1 mls X hR1 hS1 hL
  · intro E h1 H1 locs1 q9 ce hq hR1 hS1 h9 hv hcl9
    exact kx E h1 hq p e s m args below meth c H1 locs1 mls q9 ce X hR1 hS1 hL h9 hv hcl9
/-- a constructor's call -/
theorem q_invI {M' : q_M} {d' mc' ms' : Nat} {Q' : q_O → q_H → Prop} {as stk : List Value} {own : String} {idx n i : Nat} (hret : M'.2.2.2.1 = none) (hy1 : M'.1.name = "<init>") (hi : q_R0 ≤ i)
    (hd : decode M.2.1 pc = .ok (.invokespecial idx, 3)) (hk : q_isM M' n) (hl : Cond.methodLink own idx M'.1 ∈ q_WS) (hin : Cond.instanceMethod M'.1 ∈ q_WS) (ho : M.1.cls = own)
    (hstk : stk = as.reverse ++ .ref i :: st) (hn : as.length = n) (h4 : st.length ≤ 4) (hdd : d' + 1 ≤ d) (hml : M'.2.2.1 ≤ 31) (hmc : kc + mc' ≤ mc) (hms : ks + ms' ≤ ms)
    (sp : q_Spec g M' d' mc' ms' (.ref i :: as) h Q')
    (kk : ∀ v h1, Q' (.inl v) h1 → q_W g M d mc ms Q (kc + mc') (ks + ms') (pc + 3) ls (v.toList ++ st) h1)
    (kx : ∀ E h1, Q' (.inr E) h1 → q_X g M d mc ms Q E (kc + mc') (ks + ms') pc ls st h1) : q_W g M d mc ms Q kc ks pc ls stk h := by
  intro p e s m args below meth c H locs mls X hR hS hL
  have hts := q_hWS X.2.2.2.2.1
  have hK := X.2.2.2.2.2.2.2.1
  have hown : s.vm.findClass own = some m.cls := by rw [← ho]; exact X.2.2.2.1
  have hpre := fun U hU hW => q_pre (as := .ref i :: as) hK hR hS U hU hW
  rw [List.map_cons, q_tV_ref hi] at hpre
  have cb := q_cb (d := d) (mc := mc) (ms := ms) (mc' := mc') (ms' := ms') hts hk hl hdd hml
  rw [hret] at cb
  refine q_cont (vx_runI (As := as.map (q_tV g)) (rest := st.map (q_tV g)) ⟨X.1, X.2.1, X.2.2.1, hown, hts⟩ sp ⟨cb, hy1, hts _ hin⟩ ⟨q_blind, hpre⟩ rfl (by rw [List.length_map]; exact hn) hL.1 (q_args hi hstk) (q_rest h4) hd ⟨hmc, hms⟩) hS ?_ ?_
  · intro v h1 H1 locs1 hq hR1 hS1
    rw [← q_toList]
    exact kk v h1 hq p e s m args below meth c H1 locs1 mls X hR1 hS1 hL
  · intro E h1 H1 locs1 q9 ce hq hR1 hS1 h9 hv hcl9
    exact kx E h1 hq p e s m args below meth c H1 locs1 mls q9 ce X hR1 hS1 hL h9 hv hcl9
theorem q_invIN {M' : q_M} {d' mc' ms' : Nat} {Q' : q_O → q_H → Prop} {as stk : List Value} {own host : String} {idx n i : Nat} (hret : M'.2.2.2.1 = none) (hy1 : M'.1.name = "<init>") (hi : q_R0 ≤ i)
    (hd : decode M.2.1 pc = .ok (.invokespecial idx, 3)) (hk : q_isM M' n) (hl : Cond.methodLinkNest own idx M'.1 host ∈ lw_tbl) (hin : Cond.instanceMethod M'.1 ∈ q_WS) (ho : M.1.cls = own)
    (hstk : stk = as.reverse ++ .ref i :: st) (hn : as.length = n) (h4 : st.length ≤ 4) (hdd : d' + 1 ≤ d) (hml : M'.2.2.1 ≤ 31) (hmc : kc + mc' ≤ mc) (hms : ks + ms' ≤ ms)
    (sp : q_Spec g M' d' mc' ms' (.ref i :: as) h Q')
    (kk : ∀ v h1, Q' (.inl v) h1 → q_W g M d mc ms Q (kc + mc') (ks + ms') (pc + 3) ls (v.toList ++ st) h1)
    (kx : ∀ E h1, Q' (.inr E) h1 → q_X g M d mc ms Q E (kc + mc') (ks + ms') pc ls st h1) : q_W g M d mc ms Q kc ks pc ls stk h := by
  intro p e s m args below meth c H locs mls X hR hS hL
  have hts := q_hWS X.2.2.2.2.1
  have hK := X.2.2.2.2.2.2.2.1
  have hown : s.vm.findClass own = some m.cls := by rw [← ho]; exact X.2.2.2.1
  have hpre := fun U hU hW => q_pre (as := .ref i :: as) hK hR hS U hU hW
  rw [List.map_cons, q_tV_ref hi] at hpre
  have cb : va_CN (q_rm d mc ms) s args own idx M'.1 host M'.2.1 M'.2.2.1 M'.2.2.2.1 (q_ws M') (q_rm d' mc' ms') mc' ms' n := by
    obtain ⟨k1, k2, k3, k4, k5⟩ := hk
    refine ⟨⟨rfl, rfl, hdd, by show 8 + (M'.2.2.1 + 11) + 50 * d' ≤ 50 * d; omega, fun w hw a' U hW => ?_, by rw [q_ws, q_cw_code k1]; exact List.mem_cons_self⟩, by rw [← q_cw_code k1]; exact hts _ k4, hts _ k5, k2, fun sig hs => ?_, va_Nw.use rfl (hK.2.2.2.2.2.1.1 _ _ _ _ hl)⟩
    · rcases List.mem_cons.mp hw with e | hw
      · rw [e]; exact q_warm hts k4 a' U hW
      · exact q_warm hts hw a' U hW
    · rw [hs] at k3
      exact (Option.some.inj k3).symm
  rw [hret] at cb
  refine q_cont (vx_runIN (As := as.map (q_tV g)) (rest := st.map (q_tV g)) ⟨X.1, X.2.1, X.2.2.1, hown, hts⟩ sp ⟨cb, hy1, hts _ hin⟩ ⟨q_blind, hpre⟩ rfl (by rw [List.length_map]; exact hn) hL.1 (q_args hi hstk) (q_rest h4) hd ⟨hmc, hms⟩) hS ?_ ?_
  · intro v h1 H1 locs1 hq hR1 hS1
    rw [← q_toList]
    exact kk v h1 hq p e s m args below meth c H1 locs1 mls X hR1 hS1 hL
  · intro E h1 H1 locs1 q9 ce hq hR1 hS1 h9 hv hcl9
    exact kx E h1 hq p e s m args below meth c H1 locs1 mls q9 ce X hR1 hS1 hL h9 hv hcl9
end PVC
