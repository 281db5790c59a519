section PVA
variable {g : q_G} {M : q_M} {d mc ms : Nat} {Q : q_O → q_H → Prop} {kc ks pc : Nat} {ls st : List Value} {h : q_H}
theorem q_iald {i n : Nat} {f : Nat → Int32} {j : Int32} (hd : decode M.2.1 pc = .ok (.iaload, 1)) (hc : h.2 i = some (.inl (0, n, .inl f))) (hin : vp_in j n) (kk : q_W g M d mc ms Q kc ks (pc + 1) ls (.int (f j.toNatClampNeg) :: st) (h)) : q_W g M d mc ms Q kc ks (pc) ls (.int j :: .ref i :: st) (h) := by
  intro p e s m args below meth c H locs mls X hR hS hL
  obtain ⟨i1, i2, i3⟩ := hR.2.2 i _ hc
  rw [List.map_cons, List.map_cons, q_tV_ref i1]
  exact va_iald X.1 X.2.1 X.2.2.2.2.2.2.2.1.1 (q_P1 i3) 0 0 rfl rfl hin hd (kk p e s m args below meth c H locs mls X hR hS hL)
theorem q_iast {i n : Nat} {f : Nat → Int32} {j : Int32} {x : Int32} (hd : decode M.2.1 pc = .ok (.iastore, 1)) (hc : h.2 i = some (.inl (0, n, .inl f))) (hin : vp_in j n) (kk : q_W g M d mc ms Q kc ks (pc + 1) ls (st) (q_set h i (.inl (0, n, .inl (upd f j.toNatClampNeg (x)))))) : q_W g M d mc ms Q kc ks (pc) ls (.int x :: .int j :: .ref i :: st) (h) := by
  intro p e s m args below meth c H locs mls X hR hS hL
  obtain ⟨i1, i2, i3⟩ := hR.2.2 i _ hc
  rw [List.map_cons, List.map_cons, List.map_cons, q_tV_ref i1]
  refine W.iast X.1 X.2.1 (show H[q_ad g i]? = some (arrV (g.2.2.2.1 0) n (fun j => .int (f j))) from i3) ((X.2.2.2.2.2.2.2.1.1.2 0 _ rfl).1 n (fun j => .int (f j))) (fun q => by cases q) (by rw [arrV_size]; exact hin) rfl rfl hd fun H1 e1 z oq => ?_
  refine kk p e s m args below meth c H1 _ mls X (hR.upd hc z ?_ oq) (hS.put z oq q_A_of) hL
  show H1[q_ad g i]? = some (arrV (g.2.2.2.1 0) n (fun j' => .int (upd f j.toNatClampNeg (x) j')))
  rw [e1, arrV_store]
  congr 2
  funext q
  by_cases hq : q = j.toNatClampNeg
  · subst hq
    simp [updV, upd, vp_nar]
    try rfl
  · simp [updV, upd, hq]
theorem q_zald {i n : Nat} {f : Nat → Int32} {j : Int32} (hd : decode M.2.1 pc = .ok (.baload, 1)) (hc : h.2 i = some (.inl (1, n, .inl f))) (hin : vp_in j n) (kk : q_W g M d mc ms Q kc ks (pc + 1) ls (.int (f j.toNatClampNeg) :: st) (h)) : q_W g M d mc ms Q kc ks (pc) ls (.int j :: .ref i :: st) (h) := by
  intro p e s m args below meth c H locs mls X hR hS hL
  obtain ⟨i1, i2, i3⟩ := hR.2.2 i _ hc
  rw [List.map_cons, List.map_cons, q_tV_ref i1]
  exact va_zald X.1 X.2.1 X.2.2.2.2.2.2.2.1.1 (q_P1 i3) 0 1 rfl rfl hin hd (kk p e s m args below meth c H locs mls X hR hS hL)
theorem q_zast {i n : Nat} {f : Nat → Int32} {j : Int32} {x : Int32} (hd : decode M.2.1 pc = .ok (.bastore, 1)) (hc : h.2 i = some (.inl (1, n, .inl f))) (hin : vp_in j n) (kk : q_W g M d mc ms Q kc ks (pc + 1) ls (st) (q_set h i (.inl (1, n, .inl (upd f j.toNatClampNeg (vp_nar .boolean x)))))) : q_W g M d mc ms Q kc ks (pc) ls (.int x :: .int j :: .ref i :: st) (h) := by
  intro p e s m args below meth c H locs mls X hR hS hL
  obtain ⟨i1, i2, i3⟩ := hR.2.2 i _ hc
  rw [List.map_cons, List.map_cons, List.map_cons, q_tV_ref i1]
  refine W.zast X.1 X.2.1 (show H[q_ad g i]? = some (arrV (g.2.2.2.1 1) n (fun j => .int (f j))) from i3) ((X.2.2.2.2.2.2.2.1.1.2 1 _ rfl).1 n (fun j => .int (f j))) (fun q => by cases q) (by rw [arrV_size]; exact hin) rfl rfl hd fun H1 e1 z oq => ?_
  refine kk p e s m args below meth c H1 _ mls X (hR.upd hc z ?_ oq) (hS.put z oq q_A_of) hL
  show H1[q_ad g i]? = some (arrV (g.2.2.2.1 1) n (fun j' => .int (upd f j.toNatClampNeg (vp_nar .boolean x) j')))
  rw [e1, arrV_store]
  congr 2
  funext q
  by_cases hq : q = j.toNatClampNeg
  · subst hq
    simp [updV, upd, vp_nar]
    try rfl
  · simp [updV, upd, hq]
theorem q_bald {i n : Nat} {f : Nat → Int32} {j : Int32} (hd : decode M.2.1 pc = .ok (.baload, 1)) (hc : h.2 i = some (.inl (3, n, .inl f))) (hin : vp_in j n) (kk : q_W g M d mc ms Q kc ks (pc + 1) ls (.int (f j.toNatClampNeg) :: st) (h)) : q_W g M d mc ms Q kc ks (pc) ls (.int j :: .ref i :: st) (h) := by
  intro p e s m args below meth c H locs mls X hR hS hL
  obtain ⟨i1, i2, i3⟩ := hR.2.2 i _ hc
  rw [List.map_cons, List.map_cons, q_tV_ref i1]
  exact va_bald X.1 X.2.1 X.2.2.2.2.2.2.2.1.1 (q_P1 i3) 0 3 rfl rfl hin hd (kk p e s m args below meth c H locs mls X hR hS hL)
theorem q_bast {i n : Nat} {f : Nat → Int32} {j : Int32} {x : Int32} (hd : decode M.2.1 pc = .ok (.bastore, 1)) (hc : h.2 i = some (.inl (3, n, .inl f))) (hin : vp_in j n) (kk : q_W g M d mc ms Q kc ks (pc + 1) ls (st) (q_set h i (.inl (3, n, .inl (upd f j.toNatClampNeg (vp_nar .byte x)))))) : q_W g M d mc ms Q kc ks (pc) ls (.int x :: .int j :: .ref i :: st) (h) := by
  intro p e s m args below meth c H locs mls X hR hS hL
  obtain ⟨i1, i2, i3⟩ := hR.2.2 i _ hc
  rw [List.map_cons, List.map_cons, List.map_cons, q_tV_ref i1]
  refine W.bast X.1 X.2.1 (show H[q_ad g i]? = some (arrV (g.2.2.2.1 3) n (fun j => .int (f j))) from i3) ((X.2.2.2.2.2.2.2.1.1.2 3 _ rfl).1 n (fun j => .int (f j))) (fun q => by cases q) (by rw [arrV_size]; exact hin) rfl rfl hd fun H1 e1 z oq => ?_
  refine kk p e s m args below meth c H1 _ mls X (hR.upd hc z ?_ oq) (hS.put z oq q_A_of) hL
  show H1[q_ad g i]? = some (arrV (g.2.2.2.1 3) n (fun j' => .int (upd f j.toNatClampNeg (vp_nar .byte x) j')))
  rw [e1, arrV_store]
  congr 2
  funext q
  by_cases hq : q = j.toNatClampNeg
  · subst hq
    simp [updV, upd, vp_nar]
    try rfl
  · simp [updV, upd, hq]
theorem q_aald {i n r : Nat} {f : Nat → Option Nat} {j : Int32} (hd : decode M.2.1 pc = .ok (.aaload, 1)) (hc : h.2 i = some (.inl (6, n, .inr (.inr (.inr (.inr f)))))) (hin : vp_in j n) (hf : f j.toNatClampNeg = some r) (hr : q_R0 ≤ r) (kk : q_W g M d mc ms Q kc ks (pc + 1) ls (.ref r :: st) (h)) : q_W g M d mc ms Q kc ks (pc) ls (.int j :: .ref i :: st) (h) := by
  intro p e s m args below meth c H locs mls X hR hS hL
  obtain ⟨i1, i2, i3⟩ := hR.2.2 i _ hc
  rw [List.map_cons, List.map_cons, q_tV_ref i1]
  refine va_aldq (C := "ArgumentMap$State") X.1 X.2.1 X.2.2.2.2.2.2.2.1.1 (q_P1 i3) 0 6 (f := fun j => (f j).map (q_ad g)) rfl rfl hin hd ?_
  have k2 := kk p e s m args below meth c H locs mls X hR hS hL
  rw [List.map_cons, q_tV_ref hr] at k2
  rw [hf]
  exact k2
theorem q_aast {i n ci v : Nat} {vs : List Value} {T : u_T} {N : Nat} {f : Nat → Option Nat} {j : Int32} (hcl : vwCl[ci]? = some ("ArgumentMap$State", T, N)) (hd : decode M.2.1 pc = .ok (.aastore, 1)) (hc : h.2 i = some (.inl (6, n, .inr (.inr (.inr (.inr f)))))) (hv : h.2 v = some (.inr (ci, vs))) (hin : vp_in j n) (kk : q_W g M d mc ms Q kc ks (pc + 1) ls (st) (q_set h i (.inl (6, n, .inr (.inr (.inr (.inr (va_up f j.toNatClampNeg (some v))))))))) : q_W g M d mc ms Q kc ks (pc) ls (.ref v :: .int j :: .ref i :: st) (h) := by
  intro p e s m args below meth c H locs mls X hR hS hL
  obtain ⟨i1, i2, i3⟩ := hR.2.2 i _ hc
  obtain ⟨v1, v2, v3⟩ := hR.2.2 v _ hv
  rw [List.map_cons, List.map_cons, List.map_cons, q_tV_ref i1, q_tV_ref v1]
  have hK := X.2.2.2.2.2.2.2.1.1
  obtain ⟨r', hr', cellV, g1, g2, g3, -⟩ := q_at_obj.mp v3
  have hcls := (hK.1 ci _ hcl).2
  obtain ⟨kA, comp, k1, k2, k3, -⟩ := (hK.2 6 _ rfl).2
  obtain rfl : comp = g.2.2.1.1 ci := Option.some.inj (k3.symm.trans hcls.1)
  obtain ⟨kC, hkC, -⟩ := hcls.2
  have hlt : j.toNatClampNeg < n := Nat.not_le.mp fun q => hin (Or.inr q)
  refine W.aast X.1 X.2.1 (show H[q_ad g i]? = some (arrV (g.2.2.2.1 6) n (fun j => va_rf ((f j).map (q_ad g)))) from i3) (fun q h => by cases h) (fun h => by cases h) k1 k2 rfl hkC ⟨fun q => hin (Or.inl q), by rw [arrV_size]; exact hlt⟩ g1 (fun q h => by rw [g3] at h; cases h) (by rw [g2]; exact hkC) (by rw [g2]; exact va_assign hcls) rfl rfl hd fun H1 e1 z oq => ?_
  refine kk p e s m args below meth c H1 _ mls X (hR.upd hc z ?_ oq) (hS.put z oq q_A_of) hL
  show H1[q_ad g i]? = some (arrV (g.2.2.2.1 6) n (fun j' => va_rf ((va_up f j.toNatClampNeg (some v) j').map (q_ad g))))
  rw [e1, arrV_store]
  congr 2
  funext q
  by_cases hq : q = j.toNatClampNeg
  · subst hq
    simp [updV, va_up, va_rf]
  · simp [updV, va_up, hq]
theorem q_alenI {i n t : Nat} {ty : FieldType} {f : Nat → Int32} (ht : (q_tys g)[t]? = some (g.2.2.2.1 t, ty)) (hd : decode M.2.1 pc = .ok (.arraylength, 1)) (hc : h.2 i = some (.inl (t, n, .inl f))) (kk : q_W g M d mc ms Q kc ks (pc + 1) ls (.int (Int32.ofNat n) :: st) (h)) : q_W g M d mc ms Q kc ks (pc) ls (.ref i :: st) (h) := by
  intro p e s m args below meth c H locs mls X hR hS hL
  obtain ⟨i1, i2, i3⟩ := hR.2.2 i _ hc
  rw [List.map_cons, q_tV_ref i1]
  exact va_alen X.1 X.2.1 X.2.2.2.2.2.2.2.1.1 (q_P1 i3) 0 t rfl ht rfl hd (kk p e s m args below meth c H locs mls X hR hS hL)
theorem q_alenL {i n t : Nat} {ty : FieldType} {f : Nat → Int64} (ht : (q_tys g)[t]? = some (g.2.2.2.1 t, ty)) (hd : decode M.2.1 pc = .ok (.arraylength, 1)) (hc : h.2 i = some (.inl (t, n, .inr (.inl f)))) (kk : q_W g M d mc ms Q kc ks (pc + 1) ls (.int (Int32.ofNat n) :: st) (h)) : q_W g M d mc ms Q kc ks (pc) ls (.ref i :: st) (h) := by
  intro p e s m args below meth c H locs mls X hR hS hL
  obtain ⟨i1, i2, i3⟩ := hR.2.2 i _ hc
  rw [List.map_cons, q_tV_ref i1]
  exact va_alen X.1 X.2.1 X.2.2.2.2.2.2.2.1.1 (q_P1 i3) 0 t rfl ht rfl hd (kk p e s m args below meth c H locs mls X hR hS hL)
theorem q_alenD {i n t : Nat} {ty : FieldType} {f : Nat → UInt64} (ht : (q_tys g)[t]? = some (g.2.2.2.1 t, ty)) (hd : decode M.2.1 pc = .ok (.arraylength, 1)) (hc : h.2 i = some (.inl (t, n, .inr (.inr (.inr (.inl f)))))) (kk : q_W g M d mc ms Q kc ks (pc + 1) ls (.int (Int32.ofNat n) :: st) (h)) : q_W g M d mc ms Q kc ks (pc) ls (.ref i :: st) (h) := by
  intro p e s m args below meth c H locs mls X hR hS hL
  obtain ⟨i1, i2, i3⟩ := hR.2.2 i _ hc
  rw [List.map_cons, q_tV_ref i1]
  exact va_alen X.1 X.2.1 X.2.2.2.2.2.2.2.1.1 (q_P1 i3) 0 t rfl ht rfl hd (kk p e s m args below meth c H locs mls X hR hS hL)
theorem q_newaI {n : Int32} {N : Nat} (harr : Cond.arrayClass (newarray.typeOf .int) ∈ q_WS) (hd : decode M.2.1 pc = .ok (.newarray .int, 2)) (hn : ¬ n < 0) (hN : n.toNatClampNeg = N) (hb : N * componentBytes (newarray.typeOf .int) ≤ 536870912) (hmc : kc + 1 ≤ mc) (hms : ks + N ≤ ms)
    (kk : q_R0 ≤ h.1 → q_W g M d mc ms Q (kc + 1) (ks + N) (pc + 2) ls (.ref h.1 :: st) (q_push h (.inl (0, N, .inl (fun _ => 0))))) : q_W g M d mc ms Q kc ks (pc) ls (.int n :: st) (h) := by
  intro p e s m args below meth c H locs mls X hR hS hL
  have hts := q_hWS X.2.2.2.2.1
  have h1 := hR.1
  refine va_newaK X.1 X.2.1 (hts _ harr) rfl hd rfl hn hN hb hmc hms rfl fun H1 cA e1 z1 o1 hAr hNm => ?_
  have hc : cA = g.2.2.2.1 0 := Option.some.inj (hNm.symm.trans (X.2.2.2.2.2.2.2.1.1.2 0 _ rfl).2)
  subst hc
  have k2 := kk h1 p e s m args below meth c H1 locs mls X (hR.pushed (c := .inl (0, N, .inl (fun _ => 0))) z1 (by
    rw [← hR.2.1]
    exact e1) o1) ⟨Nat.le_trans hS.1 (by omega), fun x q1 q2 => (o1 x (Nat.lt_of_lt_of_le q1 hS.1)).trans (hS.2.1 x q1 q2), hS.2.2⟩ hL
  rw [List.map_cons, q_tV_ref h1, ← hR.2.1] at k2
  exact k2
theorem q_newaZ {n : Int32} {N : Nat} (harr : Cond.arrayClass (newarray.typeOf .boolean) ∈ q_WS) (hd : decode M.2.1 pc = .ok (.newarray .boolean, 2)) (hn : ¬ n < 0) (hN : n.toNatClampNeg = N) (hb : N * componentBytes (newarray.typeOf .boolean) ≤ 536870912) (hmc : kc + 1 ≤ mc) (hms : ks + N ≤ ms)
    (kk : q_R0 ≤ h.1 → q_W g M d mc ms Q (kc + 1) (ks + N) (pc + 2) ls (.ref h.1 :: st) (q_push h (.inl (1, N, .inl (fun _ => 0))))) : q_W g M d mc ms Q kc ks (pc) ls (.int n :: st) (h) := by
  intro p e s m args below meth c H locs mls X hR hS hL
  have hts := q_hWS X.2.2.2.2.1
  have h1 := hR.1
  refine va_newaK X.1 X.2.1 (hts _ harr) rfl hd rfl hn hN hb hmc hms rfl fun H1 cA e1 z1 o1 hAr hNm => ?_
  have hc : cA = g.2.2.2.1 1 := Option.some.inj (hNm.symm.trans (X.2.2.2.2.2.2.2.1.1.2 1 _ rfl).2)
  subst hc
  have k2 := kk h1 p e s m args below meth c H1 locs mls X (hR.pushed (c := .inl (1, N, .inl (fun _ => 0))) z1 (by
    rw [← hR.2.1]
    exact e1) o1) ⟨Nat.le_trans hS.1 (by omega), fun x q1 q2 => (o1 x (Nat.lt_of_lt_of_le q1 hS.1)).trans (hS.2.1 x q1 q2), hS.2.2⟩ hL
  rw [List.map_cons, q_tV_ref h1, ← hR.2.1] at k2
  exact k2
theorem q_newaB {n : Int32} {N : Nat} (harr : Cond.arrayClass (newarray.typeOf .byte) ∈ q_WS) (hd : decode M.2.1 pc = .ok (.newarray .byte, 2)) (hn : ¬ n < 0) (hN : n.toNatClampNeg = N) (hb : N * componentBytes (newarray.typeOf .byte) ≤ 536870912) (hmc : kc + 1 ≤ mc) (hms : ks + N ≤ ms)
    (kk : q_R0 ≤ h.1 → q_W g M d mc ms Q (kc + 1) (ks + N) (pc + 2) ls (.ref h.1 :: st) (q_push h (.inl (3, N, .inl (fun _ => 0))))) : q_W g M d mc ms Q kc ks (pc) ls (.int n :: st) (h) := by
  intro p e s m args below meth c H locs mls X hR hS hL
  have hts := q_hWS X.2.2.2.2.1
  have h1 := hR.1
  refine va_newaK X.1 X.2.1 (hts _ harr) rfl hd rfl hn hN hb hmc hms rfl fun H1 cA e1 z1 o1 hAr hNm => ?_
  have hc : cA = g.2.2.2.1 3 := Option.some.inj (hNm.symm.trans (X.2.2.2.2.2.2.2.1.1.2 3 _ rfl).2)
  subst hc
  have k2 := kk h1 p e s m args below meth c H1 locs mls X (hR.pushed (c := .inl (3, N, .inl (fun _ => 0))) z1 (by
    rw [← hR.2.1]
    exact e1) o1) ⟨Nat.le_trans hS.1 (by omega), fun x q1 q2 => (o1 x (Nat.lt_of_lt_of_le q1 hS.1)).trans (hS.2.1 x q1 q2), hS.2.2⟩ hL
  rw [List.map_cons, q_tV_ref h1, ← hR.2.1] at k2
  exact k2
end PVA
