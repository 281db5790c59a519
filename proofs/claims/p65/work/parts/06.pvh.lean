section PVH
variable {g : q_G} {M : q_M} {d mc ms : Nat} {Q : q_O → q_H → Prop} {kc ks pc : Nat} {ls st : List Value} {h : q_H}
theorem q_hWS {args : Array Value} {s : State} (hts : ∀ w ∈ q_WS, w.before args s = true) : ∀ w ∈ q_WS, w.before args s = true := hts
theorem q_P1 {D : va_G} {cl : List vw_C} {q : Nat × va_E} {H : Heap} (h : va_at D cl q H) : va_P D cl [q] H := by
  intro k x hx
  cases k with
  | zero => cases hx; exact h
  | succ k => simp at hx
/-! returns -/
theorem q_ireturn {x : Int32} {ty : FieldType} (hd : decode M.2.1 pc = .ok (.ireturn, 1)) (hr : M.2.2.2.1 = some ty) (hn : narrow ty (.int x) = .int x) (hc : kc ≤ mc) (hs : ks ≤ ms) (hq : Q (.inl (some (.int x))) h) :
    q_W g M d mc ms Q kc ks pc ls [.int x] h := fun p e s m args below meth c H locs mls C hR hS hL =>
  W.widen hc hs (vx_ret (W.zret C.1 C.2.1 (C.2.2.2.2.2.1.trans hr) hn (fun t ht _ => ⟨some (.int x), h, rfl, hq, by rw [ht]; exact hR, hS.F ht⟩) hS.2.2 hd C.2.2.2.2.2.2.1))
theorem q_return (hd : decode M.2.1 pc = .ok (.return_, 1)) (hr : M.2.2.2.1 = none) (hc : kc ≤ mc) (hs : ks ≤ ms) (hq : Q (.inl none) h) :
    q_W g M d mc ms Q kc ks pc ls [] h := fun p e s m args below meth c H locs mls C hR hS hL =>
  W.widen hc hs (vx_ret (W.vret C.1 C.2.1 (C.2.2.2.2.2.1.trans hr) (fun t ht _ => ⟨none, h, rfl, hq, by rw [ht]; exact hR, hS.F ht⟩) hS.2.2 hd C.2.2.2.2.2.2.1))
theorem q_freturn {x : UInt32} (hd : decode M.2.1 pc = .ok (.freturn, 1)) (hr : M.2.2.2.1 = some .float) (hc : kc ≤ mc) (hs : ks ≤ ms) (hq : Q (.inl (some (.float x))) h) :
    q_W g M d mc ms Q kc ks pc ls [.float x] h := fun p e s m args below meth c H locs mls C hR hS hL =>
  W.widen hc hs (vx_ret (W.fret C.1 C.2.1 (C.2.2.2.2.2.1.trans hr) (fun t ht _ => ⟨some (.float x), h, rfl, hq, by rw [ht]; exact hR, hS.F ht⟩) hS.2.2 hd C.2.2.2.2.2.2.1))
theorem q_dreturn {x : UInt64} (hd : decode M.2.1 pc = .ok (.dreturn, 1)) (hr : M.2.2.2.1 = some .double) (hc : kc ≤ mc) (hs : ks ≤ ms) (hq : Q (.inl (some (.double x))) h) :
    q_W g M d mc ms Q kc ks pc ls [.double x] h := fun p e s m args below meth c H locs mls C hR hS hL =>
  W.widen hc hs (vx_ret (W.dret C.1 C.2.1 (C.2.2.2.2.2.1.trans hr) (fun t ht _ => ⟨some (.double x), h, rfl, hq, by rw [ht]; exact hR, hS.F ht⟩) hS.2.2 hd C.2.2.2.2.2.2.1))
theorem q_areturn {i : Nat} {rt : FieldType} (hi : q_R0 ≤ i) (hd : decode M.2.1 pc = .ok (.areturn, 1)) (hr : M.2.2.2.1 = some rt) (hrt : (∃ n, rt = .object n) ∨ ∃ t, rt = .array t) (hc : kc ≤ mc) (hs : ks ≤ ms) (hq : Q (.inl (some (.ref i))) h) :
    q_W g M d mc ms Q kc ks pc ls [.ref i] h := fun p e s m args below meth c H locs mls C hR hS hL => by
  rw [List.map_cons, q_tV_ref hi]
  exact W.widen hc hs (vx_ret (W.aret C.1 C.2.1 (C.2.2.2.2.2.1.trans hr) hrt (Or.inr ⟨_, rfl⟩) (fun t ht _ => ⟨some (.ref i), h, by rw [Option.map_some, q_tV_ref hi], hq, by rw [ht]; exact hR, hS.F ht⟩) hS.2.2 hd C.2.2.2.2.2.2.1))
/-! fields -/
theorem q_getf {own C : String} {T : u_T} {N ci k idx i : Nat} {ty0 : Nat → FieldType} {fs : List Value} {v : Value} (hcl : q_isC ci C T N ty0) (hlw : Cond.fieldLink own idx (T k).1 (T k).2.1 (T k).2.2.1 ∈ q_WS) (ho : M.1.cls = own) (hk : k < N)
    (hd : decode M.2.1 pc = .ok (.getfield idx, 3)) (hc : h.2 i = some (.inr (ci, fs))) (hv : fs[k]? = some v) (kk : q_W g M d mc ms Q kc ks (pc + 3) ls (v :: st) h) : q_W g M d mc ms Q kc ks pc ls (.ref i :: st) h := by
  intro p e s m args below meth c H locs mls X hR hS hL
  obtain ⟨i1, i2, i3⟩ := hR.2.2 i _ hc
  have hts := q_hWS X.2.2.2.2.1
  rw [List.map_cons, q_tV_ref i1]
  refine va_get (own := own) (ref := (T k).1) (C := C) (T := T) (N := N) (ci := ci) (fs := fs.map (q_tV g)) X.1 X.2.1 hts hcl.2.1 (by rw [← ho]; exact X.2.2.2.1) X.2.2.2.2.2.2.2.1.1 (q_P1 i3) 0 rfl hcl.1 k hk (hts _ hlw) (fun _ q => q) (by rw [List.getElem?_map, hv]; rfl) hd ?_
  exact kk p e s m args below meth c H locs mls X hR hS hL
theorem q_getfN {own host C : String} {T : u_T} {N ci k idx i : Nat} {ty0 : Nat → FieldType} {fs : List Value} {v : Value} (hcl : q_isC ci C T N ty0) (hlw : Cond.fieldLinkNest own idx (T k).1 (T k).2.1 (T k).2.2.1 host ∈ lw_tbl) (ho : M.1.cls = own) (hk : k < N)
    (hd : decode M.2.1 pc = .ok (.getfield idx, 3)) (hc : h.2 i = some (.inr (ci, fs))) (hv : fs[k]? = some v) (kk : q_W g M d mc ms Q kc ks (pc + 3) ls (v :: st) h) : q_W g M d mc ms Q kc ks pc ls (.ref i :: st) h := by
  intro p e s m args below meth c H locs mls X hR hS hL
  obtain ⟨i1, i2, i3⟩ := hR.2.2 i _ hc
  have hts := q_hWS X.2.2.2.2.1
  rw [List.map_cons, q_tV_ref i1]
  refine va_getN (own := own) (ref := (T k).1) (C := C) (T := T) (N := N) (ci := ci) (fs := fs.map (q_tV g)) X.1 X.2.1 hts hcl.2.1 (by rw [← ho]; exact X.2.2.2.1) X.2.2.2.2.2.2.2.1.1 (q_P1 i3) 0 rfl hcl.1 k hk (va_Nw.use rfl (X.2.2.2.2.2.2.2.1.2.2.2.2.2.1.2.1 _ _ _ _ _ _ hlw)) (fun _ q => q) (by rw [List.getElem?_map, hv]; rfl) hd ?_
  exact kk p e s m args below meth c H locs mls X hR hS hL
/-- what a field or an array of this type keeps as it is -/
def q_fit (ty : FieldType) (v : Value) : Prop := narrow ty v = v ∧ fits ty v = true
theorem q_fit_tV {g : q_G} (hg : ∀ i, g.2.2.2.2.1 i = .null ∨ ∃ a : Nat, g.2.2.2.2.1 i = .ref a) {ty : FieldType} {v : Value} (hf : q_fit ty v) (ho : q_one v = true) : q_fit ty (q_tV g v) := by
  cases v with
  | ref i =>
    obtain ⟨-, f2⟩ := hf
    by_cases hi : i < q_R0
    · have e : q_tV g (.ref i) = g.2.2.2.2.1 i := by
        show (if i < q_R0 then g.2.2.2.2.1 i else .ref (q_ad g i)) = _
        rw [if_pos hi]
      rw [e]
      rcases hg i with h | ⟨a, h⟩ <;> rw [h] <;> cases ty <;> simp_all [q_fit, narrow, fits]
    · rw [q_tV_ref (Nat.le_of_not_lt hi)]
      cases ty <;> simp_all [q_fit, narrow, fits]
  | _ => exact hf
theorem q_at_obj {g : q_G} {i ci : Nat} {fs : List Value} {H : Heap} : va_at g.2.2.1 vwCl (q_ad g i, q_ce g (.inr (ci, fs))) H = ∃ r : vw_C, vwCl[ci]? = some r ∧ t_OB (q_ad g i) (g.2.2.1.1 ci) r.2.2 (g.2.2.1.2 ci) H (vp_V (fs.map (q_tV g))) := rfl
theorem q_putf {own C : String} {T : u_T} {N ci k idx i : Nat} {ty0 : Nat → FieldType} {fs : List Value} {v : Value} (hcl : q_isC ci C T N ty0) (hlw : Cond.fieldLink own idx (T k).1 (T k).2.1 (T k).2.2.1 ∈ q_WS) (ho : M.1.cls = own) (hk : k < N) (hfin : (T k).2.2.2 = false)
    (hd : decode M.2.1 pc = .ok (.putfield idx, 3)) (hc : h.2 i = some (.inr (ci, fs))) (hl : k < fs.length) (hf : q_fit (ty0 k) v) (hv : q_one v = true) (kk : q_W g M d mc ms Q kc ks (pc + 3) ls st (q_set h i (.inr (ci, fs.set k v)))) : q_W g M d mc ms Q kc ks pc ls (v :: .ref i :: st) h := by
  intro p e s m args below meth c H locs mls X hR hS hL
  obtain ⟨i1, i2, i3⟩ := hR.2.2 i _ hc
  have hts := q_hWS X.2.2.2.2.1
  obtain ⟨hcl1, hin, hty, hnm⟩ := hcl
  have hK := X.2.2.2.2.2.2.2.1.1
  have hown : s.vm.findClass own = some m.cls := by rw [← ho]; exact X.2.2.2.1
  have hap := va_apart (own := own) hts hin ty0 hty hnm hK hcl1
  rw [List.map_cons, List.map_cons, q_tV_ref i1]
  obtain ⟨r, r1, cell, q1, q2, q3, q4⟩ := q_at_obj.mp i3
  obtain rfl : r = (C, T, N) := Option.some.inj (r1.symm.trans hcl1)
  obtain ⟨hSl, hfc, kC, hkC, hkind⟩ := hK.1 ci _ hcl1
  obtain ⟨cf, kf, fi, f, hi, hsl⟩ := hSl k hk
  have hlay := hts _ (hin _ (u_in_lay hk))
  unfold u_lay at hlay
  rw [if_neg (by rw [hfin]; decide)] at hlay
  have hst := (u_facts hfc hkC (u_lays hts hin hk) hi).1
  have hf2 := q_fit_tV (g := g) X.2.2.2.2.2.2.2.1.2.2.2.2.2.2.2.2.2.2 hf hv
  have h6 := u_store hfc hkC hkind hlay hi (hty k hk) hf2.1 hf2.2
  refine W.putK X.1 X.2.1 (f := f) ⟨hown, hts _ hlw, ⟨_, _, _, hi⟩, hst⟩ (by rw [q2]; exact h6) q1 q3 (by rw [hsl]; exact k2_hasslot (q4 k hk)) rfl rfl hd fun H1 e1 e2 e3 => ?_
  rw [hsl] at e1 ⊢
  refine kk p e s m args below meth c H1 _ mls X (hR.upd hc e2 ?_ e3) (hS.put e2 e3 q_A_of) hL
  exact ⟨_, hcl1, t_OB.to (V := updV (vp_V (fs.map (q_tV g))) k (q_tV g v)) ⟨_, e1, q2, q3, t_set q4 hap hk (q_tV g v)⟩ (fun j _ => by rw [vp_updV_set (by simpa using hl)]; simp [List.map_set])⟩
theorem q_putfF {own C : String} {T : u_T} {N ci k idx i : Nat} {ty0 : Nat → FieldType} {fs : List Value} {v : Value} (hcl : q_isC ci C T N ty0) (hlw : Cond.fieldLink own idx (T k).1 (T k).2.1 (T k).2.2.1 ∈ q_WS) (ho : M.1.cls = own) (hk : k < N) (hfin : (T k).2.2.2 = true) (hnm1 : M.1.name = "<init>") (hdecl : (T k).1 = own)
    (hd : decode M.2.1 pc = .ok (.putfield idx, 3)) (hc : h.2 i = some (.inr (ci, fs))) (hl : k < fs.length) (hf : q_fit (ty0 k) v) (hv : q_one v = true) (kk : q_W g M d mc ms Q kc ks (pc + 3) ls st (q_set h i (.inr (ci, fs.set k v)))) : q_W g M d mc ms Q kc ks pc ls (v :: .ref i :: st) h := by
  intro p e s m args below meth c H locs mls X hR hS hL
  obtain ⟨i1, i2, i3⟩ := hR.2.2 i _ hc
  have hts := q_hWS X.2.2.2.2.1
  obtain ⟨hcl1, hin, hty, hnm⟩ := hcl
  have hK := X.2.2.2.2.2.2.2.1.1
  have hown : s.vm.findClass own = some m.cls := by rw [← ho]; exact X.2.2.2.1
  have hap := va_apart (own := own) hts hin ty0 hty hnm hK hcl1
  rw [List.map_cons, List.map_cons, q_tV_ref i1]
  obtain ⟨r, r1, cell, q1, q2, q3, q4⟩ := q_at_obj.mp i3
  obtain rfl : r = (C, T, N) := Option.some.inj (r1.symm.trans hcl1)
  obtain ⟨hSl, hfc, kC, hkC, hkind⟩ := hK.1 ci _ hcl1
  obtain ⟨cf, kf, fi, f, hi, hsl⟩ := hSl k hk
  have hlay := hts _ (hin _ (u_in_lay hk))
  unfold u_lay at hlay
  rw [if_pos hfin] at hlay
  have hst := (u_facts hfc hkC (u_lays hts hin hk) hi).1
  have hcf : m.cls = cf := by
    obtain ⟨_, _, c', _, _, _, -, -, hf', -, -, -, hown2, -⟩ := Cond.laysFinal_spec hlay
    have e1 : c' = cf := by have := hi.symm.trans hf'; simp at this; exact this.1.symm
    rw [hdecl] at hown2
    rw [← e1]; exact Option.some.inj (hown.symm.trans hown2)
  have hf2 := q_fit_tV (g := g) X.2.2.2.2.2.2.2.1.2.2.2.2.2.2.2.2.2.2 hf hv
  have h6 := u_fits hfc hkC hkind (Or.inr hlay) hi (hty k hk) hf2.1 hf2.2
  refine W.putFinK X.1 X.2.1 hown (hts _ hlw) hi hst hcf (by rw [X.2.2.2.2.2.2.2.2.2, hnm1]) (by rw [q2]; exact h6) q1 q3 (by rw [hsl]; exact k2_hasslot (q4 k hk)) rfl rfl hd fun H1 e1 e2 e3 => ?_
  rw [hsl] at e1 ⊢
  refine kk p e s m args below meth c H1 _ mls X (hR.upd hc e2 ?_ e3) (hS.put e2 e3 q_A_of) hL
  exact ⟨_, hcl1, t_OB.to (V := updV (vp_V (fs.map (q_tV g))) k (q_tV g v)) ⟨_, e1, q2, q3, t_set q4 hap hk (q_tV g v)⟩ (fun j _ => by rw [vp_updV_set (by simpa using hl)]; simp [List.map_set])⟩
/-! new -/
theorem q_new {own C : String} {T : u_T} {N ci idx : Nat} {ty0 : Nat → FieldType} {fs : List Value} (hcl : q_isC ci C T N ty0) (hlw : Cond.classLink own idx C ∈ q_WS) (hins : Cond.instantiable C N ∈ q_WS) (hini : Cond.initialized C ∈ q_WS) (ho : M.1.cls = own)
    (hd : decode M.2.1 pc = .ok (.new idx, 3)) (hfs : ∀ j, j < N → defaultValue (ty0 j) = vp_V (fs.map (q_tV g)) j) (hmc : kc + 1 ≤ mc) (hms : ks + N ≤ ms)
    (kk : q_R0 ≤ h.1 → q_W g M d mc ms Q (kc + 1) (ks + N) (pc + 3) ls (.ref h.1 :: st) (q_push h (.inr (ci, fs)))) : q_W g M d mc ms Q kc ks pc ls st h := by
  intro p e s m args below meth c H locs mls X hR hS hL
  have hts := q_hWS X.2.2.2.2.1
  obtain ⟨hcl1, hin, hty, hnm⟩ := hcl
  have hK := X.2.2.2.2.2.2.2.1.1
  have hown : s.vm.findClass own = some m.cls := by rw [← ho]; exact X.2.2.2.1
  have hKn := hK.1 ci _ hcl1
  refine W.newcK X.1 X.2.1 hown (hts _ hlw) (hts _ hins) (hts _ hini) rfl hd hmc hms hKn.2.1 rfl fun H1 kC hkC e1 z1 o1 => ?_
  have h1 := hR.1
  have k2 := kk h1 p e s m args below meth c H1 locs mls X (hR.pushed (c := .inr (ci, fs)) z1 ⟨_, hcl1, by
    rw [← hR.2.1]
    exact (u_born ty0 hts hin hKn hkC e1 hty).to hfs⟩ o1) ⟨Nat.le_trans hS.1 (by omega), fun x q1 q2 => (o1 x (Nat.lt_of_lt_of_le q1 hS.1)).trans (hS.2.1 x q1 q2), hS.2.2⟩ hL
  rw [List.map_cons, q_tV_ref h1, ← hR.2.1] at k2
  exact k2
end PVH
