/-! rules for the law's own arrays and texts -/
/-- changes and new cells from N on alone -/
def q_on (h h1 : q_H) (N : Nat) : Prop := ∃ P, q_ow h h1 P ∧ ∀ i, P i → N ≤ i
theorem q_on.no {h h1 : q_H} {N : Nat} (q : q_ow h h1 (fun _ => False)) : q_on h h1 N := ⟨_, q, fun _ c => c.elim⟩
theorem z_X.on {h h1 : q_H} {s : ZS} {lc : Nat} {fl : Nat → Int32} {N : Nat} (X : z_X h s lc fl) (q : q_on h h1 N) : z_X h1 s lc fl := by
  obtain ⟨P, q, -⟩ := q
  exact X.ow q
theorem q_on.le {h h1 : q_H} {N : Nat} (q : q_on h h1 N) : h.1 ≤ h1.1 := by
  obtain ⟨P, q, -⟩ := q
  exact q.1
/-- an array of the law's -/
def z_arr (t : Nat) (h : q_H) (i n : Nat) (F : Nat → Int32) : Prop := ∃ f, z_my h i (.inl (t, n, .inl f)) ∧ ∀ j, j < n → f j = F j
theorem z_arr.zone {t : Nat} {h h1 : q_H} {i n : Nat} {F : Nat → Int32} (a : z_arr t h i n F) (q : q_zone h h1 100 115) : z_arr t h1 i n F := by
  obtain ⟨f, m, e⟩ := a
  exact ⟨f, m.zone q, e⟩
theorem z_arr.on {t : Nat} {h h1 : q_H} {i n N : Nat} {F : Nat → Int32} (a : z_arr t h i n F) (q : q_on h h1 N) (hi : i < N) : z_arr t h1 i n F := by
  obtain ⟨f, m, e⟩ := a
  obtain ⟨P, q, hp⟩ := q
  exact ⟨f, m.ow q (fun c => by have := hp i c; omega), e⟩
theorem z_arr.ow {t : Nat} {h h1 : q_H} {i n : Nat} {F : Nat → Int32} {P : Nat → Prop} (a : z_arr t h i n F) (q : q_ow h h1 P) (hi : ¬ P i) : z_arr t h1 i n F := by
  obtain ⟨f, m, e⟩ := a
  exact ⟨f, m.ow q hi, e⟩
theorem z_arr.r0 {t : Nat} {h : q_H} {i n : Nat} {F : Nat → Int32} (a : z_arr t h i n F) : q_R0 ≤ i := by
  obtain ⟨f, m, e⟩ := a
  exact m.r0
theorem z_arr.lt {t : Nat} {h : q_H} {i n : Nat} {F : Nat → Int32} (a : z_arr t h i n F) : 215 ≤ i ∧ i < h.1 := by
  obtain ⟨f, m, e⟩ := a
  exact ⟨m.1, m.2.1⟩
theorem z_arr.eq {t : Nat} {h : q_H} {i n : Nat} {F G : Nat → Int32} (a : z_arr t h i n F) (e : ∀ j, j < n → F j = G j) : z_arr t h i n G := by
  obtain ⟨f, m, e1⟩ := a
  exact ⟨f, m, fun j hj => (e1 j hj).trans (e j hj)⟩
/-- a text that the law holds -/
def z_Tx (h : q_H) (N r v : Nat) (L : List Int32) : Prop := ∃ n f, z_LS h r v n f ∧ z_tx n f L ∧ r < h.1 ∧ v < h.1 ∧ (r < 100 ∨ N ≤ r) ∧ (v < 100 ∨ N ≤ v)
theorem z_Tx.zone {h h1 : q_H} {N r v : Nat} {L : List Int32} (a : z_Tx h N r v L) (q : q_zone h h1 100 115) : z_Tx h1 N r v L := by
  obtain ⟨n, f, x, t, a1, a2, a3, a4⟩ := a
  have := q.1
  exact ⟨n, f, x.zone q, t, by omega, by omega, a3, a4⟩
theorem z_Tx.ow {h h1 : q_H} {N r v : Nat} {L : List Int32} {P : Nat → Prop} (a : z_Tx h N r v L) (q : q_ow h h1 P) (hp : ¬ P r ∧ ¬ P v) : z_Tx h1 N r v L := by
  obtain ⟨n, f, x, t, a1, a2, a3, a4⟩ := a
  have := q.1
  exact ⟨n, f, x.ow q hp, t, by omega, by omega, a3, a4⟩
theorem z_Tx.on {h h1 : q_H} {N M r v : Nat} {L : List Int32} (a : z_Tx h N r v L) (q : q_on h h1 M) (hr : r < M ∧ v < M) : z_Tx h1 N r v L := by
  obtain ⟨P, q, hp⟩ := q
  exact a.ow q ⟨fun c => by have := hp r c; omega, fun c => by have := hp v c; omega⟩
theorem z_Tx.lt {h : q_H} {N r v : Nat} {L : List Int32} (a : z_Tx h N r v L) : r < h.1 ∧ v < h.1 := by
  obtain ⟨n, f, x, t, a1, a2, a3, a4⟩ := a
  exact ⟨a1, a2⟩
theorem z_Tx.far {h : q_H} {N r v : Nat} {L : List Int32} (a : z_Tx h N r v L) : (r < 100 ∨ N ≤ r) ∧ (v < 100 ∨ N ≤ v) := by
  obtain ⟨n, f, x, t, a1, a2, a3, a4⟩ := a
  exact ⟨a3, a4⟩
theorem z_Tx.lo {h : q_H} {N r v : Nat} {L : List Int32} (a : z_Tx h N r v L) : (3 ≤ r ∧ r < 36) ∨ q_R0 ≤ r := by
  obtain ⟨n, f, x, t, a1, a2, a3, a4⟩ := a
  exact x.lo
theorem z_Tx.down {h : q_H} {N M r v : Nat} {L : List Int32} (a : z_Tx h N r v L) (hm : M ≤ N) : z_Tx h M r v L := by
  obtain ⟨n, f, x, t, a1, a2, a3, a4⟩ := a
  exact ⟨n, f, x, t, a1, a2, by omega, by omega⟩
theorem z_Tx.const {h : q_H} {s : ZS} {lc : Nat} {fl : Nat → Int32} (X : z_X h s lc fl) (k N : Nat) (hk : k < 11) : z_Tx h N (14 + k) (25 + k) (q_pat k) := by
  have := X.s0
  exact ⟨_, _, z_LS.const hk, tx_pat k, by omega, by omega, by omega, by omega⟩
/-- a builder of the law's -/
def z_Bx (h : q_H) (N b w : Nat) (L : List Int32) : Prop := ∃ n f, z_LB h b n f w ∧ z_tx n f L ∧ N ≤ b ∧ N ≤ w
theorem z_Bx.zone {h h1 : q_H} {N b w : Nat} {L : List Int32} (a : z_Bx h N b w L) (q : q_zone h h1 100 115) : z_Bx h1 N b w L := by
  obtain ⟨n, f, x, t, a1, a2⟩ := a
  exact ⟨n, f, x.zone q, t, a1, a2⟩
theorem z_Bx.r0 {h : q_H} {N b w : Nat} {L : List Int32} (a : z_Bx h N b w L) : q_R0 ≤ b := by
  obtain ⟨n, f, x, t, a1, a2⟩ := a
  exact x.r0
section LWT
variable {g : q_G} {d mc ms : Nat} {Q : q_O → q_H → Prop} {kc ks pc : Nat} {ls st : List Value} {h : q_H} {s : ZS} {lc : Nat} {fl : Nat → Int32}
theorem q_astoreK {M : q_M} {i : Nat} {x : Nat} (hx : 3 ≤ x ∧ x < 36) (hd : decode M.2.1 pc = .ok (.astore i, 2)) (hi : i < M.2.2.1) (hok : q_ok1 ls i = true) (kk : q_W g M d mc ms Q kc ks (pc + 2) (ls.set i (.ref x)) (st) h) : q_W g M d mc ms Q kc ks (pc) ls (.ref x :: st) h := fun p e s m args below meth c H locs mls C hR hS hL => by
  obtain ⟨hlt, a, ea⟩ := C.2.2.2.2.2.2.2.1.old hx
  have e1 : q_tV g (.ref x) = .ref a := (q_tV_old hlt).trans ea
  rw [List.map_cons, e1]
  refine lv_astore C.1 C.2.1 hd hL.has hi rfl (fun ls1 h1 => kk p e s m args below meth c H locs ls1 C hR hS (q_L.store1 C.2.2.2.2.2.2.2.1.2.2.2.2.2.2.2.2.2.2 hL.2.1 hok hi ?_))
  rw [e1]
  exact h1
theorem q_astoreS {M : q_M} {i : Nat} {x : Nat} (hx : (3 ≤ x ∧ x < 36) ∨ q_R0 ≤ x) (hd : decode M.2.1 pc = .ok (.astore i, 2)) (hi : i < M.2.2.1) (hok : q_ok1 ls i = true) (kk : q_W g M d mc ms Q kc ks (pc + 2) (ls.set i (.ref x)) (st) h) : q_W g M d mc ms Q kc ks (pc) ls (.ref x :: st) h := by
  rcases hx with hx | hx
  · exact q_astoreK hx hd hi hok kk
  · exact q_astore hx hd hi hok kk
theorem t_new (X : z_X h s lc fl) (hd0 : decode mL_law.2.1 pc = .ok (.new 171, 3)) (hd1 : decode mL_law.2.1 (pc + 3) = .ok (.dup, 1)) (hd2 : decode mL_law.2.1 (pc + 4) = .ok (.invokespecial 173, 3)) (hst : st.length ≤ 2) (hd : 4 ≤ d) (hc : kc + 2 ≤ mc) (hs : ks + 20 ≤ ms)
    (kk : ∀ h1 b w, z_X h1 s lc fl → z_Bx h1 h.1 b w [] → q_on h h1 h.1 → q_W g mL_law d mc ms Q (kc + 2) (ks + 20) (pc + 7) ls (.ref b :: st) h1) : q_W g mL_law d mc ms Q kc ks pc ls st h :=
  r_newSb X hd0 hd1 hd2 hst hd hc hs (fun h1 X1 L o => kk h1 _ _ X1 ⟨_, _, L, tx_nil, Nat.le_refl _, Nat.le_succ _⟩ (q_on.no o))
theorem t_appS {N N2 b w r v : Nat} {L M : List Int32} (X : z_X h s lc fl) (B : z_Bx h N b w L) (S : z_Tx h N2 r v M) (hr : r < N ∧ v < N) (hlen : (L ++ M).length ≤ 142) (hdc : decode mL_law.2.1 pc = .ok (.invokevirtual 174, 3)) (hst : st.length ≤ 3) (hd : 8 ≤ d) (hc : kc + 1 ≤ mc) (hs : ks + 286 ≤ ms)
    (kk : ∀ h1 w', z_X h1 s lc fl → z_Bx h1 N b w' (L ++ M) → q_on h h1 N → q_W g mL_law d mc ms Q (kc + 1) (ks + 286) (pc + 3) ls (.ref b :: st) h1) : q_W g mL_law d mc ms Q kc ks pc ls (.ref r :: .ref b :: st) h := by
  obtain ⟨n, f, x, t, a1, a2⟩ := B
  obtain ⟨k, e, y, u, c1, c2, c3, c4⟩ := S
  have tt := tx_cat t u
  rw [← tt.1] at hlen
  have l1 := x.1.blt
  have l2 := x.1.vlt
  refine r_appS X x y ⟨by omega, by omega, by omega, by omega⟩ hlen hdc hst hd hc hs (fun h1 w' X1 L1 o hw => kk h1 w' X1 ⟨_, _, L1, tt, a1, by omega⟩ ⟨_, o, fun i hi => by omega⟩)
theorem t_appI {N b w m : Nat} {L : List Int32} (X : z_X h s lc fl) (B : z_Bx h N b w L) (hN : N ≤ h.1) (hm : m < 10000) (hlen : (L ++ z_dgs m).length ≤ 142) (hdc : decode mL_law.2.1 pc = .ok (.invokevirtual 180, 3)) (hst : st.length ≤ 3) (hd : 8 ≤ d) (hc : kc + 1 ≤ mc) (hs : ks + 286 ≤ ms)
    (kk : ∀ h1 w', z_X h1 s lc fl → z_Bx h1 N b w' (L ++ z_dgs m) → q_on h h1 N → q_W g mL_law d mc ms Q (kc + 1) (ks + 286) (pc + 3) ls (.ref b :: st) h1) : q_W g mL_law d mc ms Q kc ks pc ls (.int (nI m) :: .ref b :: st) h := by
  obtain ⟨n, f, x, t, a1, a2⟩ := B
  have tt := tx_num (m := m) t
  rw [← tt.1] at hlen
  have l1 := x.1.blt
  have l2 := x.1.vlt
  refine r_appI X x hm hlen hdc hst hd hc hs (fun h1 w' X1 L1 o hw => kk h1 w' X1 ⟨_, _, L1, tt, a1, by omega⟩ ⟨_, o, fun i hi => by omega⟩)
theorem t_appC {N b w : Nat} {x : Int32} {L : List Int32} (X : z_X h s lc fl) (B : z_Bx h N b w L) (hN : N ≤ h.1) (hx : z_lat x) (hlen : (L ++ [x]).length ≤ 142) (hdc : decode mL_law.2.1 pc = .ok (.invokevirtual 202, 3)) (hst : st.length ≤ 3) (hd : 8 ≤ d) (hc : kc + 1 ≤ mc) (hs : ks + 286 ≤ ms)
    (kk : ∀ h1 w', z_X h1 s lc fl → z_Bx h1 N b w' (L ++ [x]) → q_on h h1 N → q_W g mL_law d mc ms Q (kc + 1) (ks + 286) (pc + 3) ls (.ref b :: st) h1) : q_W g mL_law d mc ms Q kc ks pc ls (.int x :: .ref b :: st) h := by
  obtain ⟨n, f, x1, t, a1, a2⟩ := B
  have tt := tx_chr t x
  rw [← tt.1] at hlen
  have l1 := x1.1.blt
  have l2 := x1.1.vlt
  refine r_appC X x1 hx hlen hdc hst hd hc hs (fun h1 w' X1 L1 o hw => kk h1 w' X1 ⟨_, _, L1, tt, a1, by omega⟩ ⟨_, o, fun i hi => by omega⟩)
theorem t_str {N b w : Nat} {L : List Int32} (X : z_X h s lc fl) (B : z_Bx h N b w L) (hN : N ≤ h.1) (hlen : L.length ≤ 142) (hdc : decode mL_law.2.1 pc = .ok (.invokevirtual 183, 3)) (hst : st.length ≤ 3) (hd : 8 ≤ d) (hc : kc + 2 ≤ mc) (hs : ks + 146 ≤ ms)
    (kk : ∀ h1 r v, z_X h1 s lc fl → z_Tx h1 N r v L → q_on h h1 N → q_W g mL_law d mc ms Q (kc + 2) (ks + 146) (pc + 3) ls (.ref r :: st) h1) : q_W g mL_law d mc ms Q kc ks pc ls (.ref b :: st) h := by
  obtain ⟨n, f, x, t, a1, a2⟩ := B
  have hl := hlen
  rw [← t.1] at hl
  refine r_toStr X x hl hdc hst hd hc hs (fun h1 X1 S o => kk h1 h.1 (h.1 + 1) X1 ?_ (q_on.no o))
  have := o.1
  have h215 := X.s0
  obtain ⟨b1, b2, b3, b4, b5, b6⟩ := S.2 (by rw [q_R0e]; omega)
  exact ⟨n, f, S, t, b2, b5, by omega, by omega⟩
theorem a_new {n : Nat} (X : z_X h s lc fl) (hdc : decode mL_law.2.1 pc = .ok (.newarray .int, 2)) (hn : n ≤ 1000) (hc : kc + 1 ≤ mc) (hs : ks + n ≤ ms)
    (kk : ∀ h1 i, z_X h1 s lc fl → z_arr 0 h1 i n (fun _ => 0) → q_on h h1 h.1 → h.1 ≤ i → h.1 < h1.1 → q_W g mL_law d mc ms Q (kc + 1) (ks + n) (pc + 2) ls (.ref i :: st) h1) : q_W g mL_law d mc ms Q kc ks pc ls (.int (nI n) :: st) h := by
  refine q_newaI (N := n) kA_int hdc (nI_pos (by omega)) (nI_clamp (by omega)) (by show n * 4 ≤ _; omega) hc hs (fun hz => ?_)
  refine q_pushE (P := fun H => q_W _ _ _ _ _ _ _ _ _ _ _ H) (fun h1 s_h1 c_h1 o_h1 => ?_)
  have o2 : ∀ j, j < h.1 → h1.2 j = h.2 j := fun j hj => o_h1 j (by omega)
  have o : q_ow h h1 (fun _ => False) := q_ow.push (by omega) o2
  exact kk h1 h.1 (X.ow o) ⟨_, z_my.new X (Nat.le_refl _) (by omega) c_h1 o2, fun _ _ => rfl⟩ (q_on.no o) (Nat.le_refl _) (by omega)
theorem a_newZ {n : Nat} (X : z_X h s lc fl) (hdc : decode mL_law.2.1 pc = .ok (.newarray .boolean, 2)) (hn : n ≤ 1000) (hc : kc + 1 ≤ mc) (hs : ks + n ≤ ms)
    (kk : ∀ h1 i, z_X h1 s lc fl → z_arr 1 h1 i n (fun _ => 0) → q_on h h1 h.1 → h.1 ≤ i → h.1 < h1.1 → q_W g mL_law d mc ms Q (kc + 1) (ks + n) (pc + 2) ls (.ref i :: st) h1) : q_W g mL_law d mc ms Q kc ks pc ls (.int (nI n) :: st) h := by
  refine q_newaZ (N := n) kA_boolean hdc (nI_pos (by omega)) (nI_clamp (by omega)) (by show n * 1 ≤ _; omega) hc hs (fun hz => ?_)
  refine q_pushE (P := fun H => q_W _ _ _ _ _ _ _ _ _ _ _ H) (fun h1 s_h1 c_h1 o_h1 => ?_)
  have o2 : ∀ j, j < h.1 → h1.2 j = h.2 j := fun j hj => o_h1 j (by omega)
  have o : q_ow h h1 (fun _ => False) := q_ow.push (by omega) o2
  exact kk h1 h.1 (X.ow o) ⟨_, z_my.new X (Nat.le_refl _) (by omega) c_h1 o2, fun _ _ => rfl⟩ (q_on.no o) (Nat.le_refl _) (by omega)
theorem a_ld {i n j : Nat} {F : Nat → Int32} (A : z_arr 0 h i n F) (hdc : decode mL_law.2.1 pc = .ok (.iaload, 1)) (hj : j < n) (hn : n < 2 ^ 31) (kk : q_W g mL_law d mc ms Q kc ks (pc + 1) ls (.int (F j) :: st) h) : q_W g mL_law d mc ms Q kc ks pc ls (.int (nI j) :: .ref i :: st) h := by
  obtain ⟨f, m, e⟩ := A
  refine q_ialdN hdc m.cell hj hn ?_
  rw [e j hj]
  exact kk
theorem a_ldZ {i n j : Nat} {F : Nat → Int32} (A : z_arr 1 h i n F) (hdc : decode mL_law.2.1 pc = .ok (.baload, 1)) (hj : j < n) (hn : n < 2 ^ 31) (kk : q_W g mL_law d mc ms Q kc ks (pc + 1) ls (.int (F j) :: st) h) : q_W g mL_law d mc ms Q kc ks pc ls (.int (nI j) :: .ref i :: st) h := by
  obtain ⟨f, m, e⟩ := A
  refine q_zaldN hdc m.cell hj hn ?_
  rw [e j hj]
  exact kk
theorem a_st {i n j : Nat} {x : Int32} {F : Nat → Int32} (X : z_X h s lc fl) (A : z_arr 0 h i n F) (hdc : decode mL_law.2.1 pc = .ok (.iastore, 1)) (hj : j < n) (hn : n < 2 ^ 31)
    (kk : ∀ h1, z_X h1 s lc fl → z_arr 0 h1 i n (upd F j x) → q_ow h h1 (fun a => a = i) → q_W g mL_law d mc ms Q kc ks (pc + 1) ls st h1) : q_W g mL_law d mc ms Q kc ks pc ls (.int x :: .int (nI j) :: .ref i :: st) h := by
  obtain ⟨f, m, e⟩ := A
  refine q_iastN hdc m.cell hj hn (kk _ (X.ow (q_ow.set m)) ⟨_, m.put, fun a ha => ?_⟩ (q_ow.set m))
  by_cases q : a = j
  · subst q
    rw [upd_eq, upd_eq]
  · rw [upd_ne q, upd_ne q, e a ha]
theorem a_stZ {i n j : Nat} {x : Int32} {F : Nat → Int32} (X : z_X h s lc fl) (A : z_arr 1 h i n F) (hx : x = 0 ∨ x = 1) (hdc : decode mL_law.2.1 pc = .ok (.bastore, 1)) (hj : j < n) (hn : n < 2 ^ 31)
    (kk : ∀ h1, z_X h1 s lc fl → z_arr 1 h1 i n (upd F j x) → q_ow h h1 (fun a => a = i) → q_W g mL_law d mc ms Q kc ks (pc + 1) ls st h1) : q_W g mL_law d mc ms Q kc ks pc ls (.int x :: .int (nI j) :: .ref i :: st) h := by
  obtain ⟨f, m, e⟩ := A
  refine q_zastN hx hdc m.cell hj hn (kk _ (X.ow (q_ow.set m)) ⟨_, m.put, fun a ha => ?_⟩ (q_ow.set m))
  by_cases q : a = j
  · subst q
    rw [upd_eq, upd_eq]
  · rw [upd_ne q, upd_ne q, e a ha]
end LWT
/-! lengths, with longer numbers -/
theorem tx_dg3 {m : Nat} (h : m < 1000) : sb_dg m ≤ 3 := by
  rw [z_dg (by omega)]
  repeat' split
  all_goals omega
section LENS
variable {B : Nat} {s : ZS}
theorem z_lPlen3 (V : z_V B s) (hB : B ≤ 1000) (v : Nat) : ∀ k, k ≤ s.1 → (z_lP s.2.1 s.2.2.2.2.2.1 v k).length ≤ 4 * k := by
  intro k
  induction k with
  | zero =>
    intro _
    exact Nat.le_refl 0
  | succ k ih =>
    intro hk
    obtain ⟨m, hm, e⟩ := V.id (by omega : k < s.1)
    have h2 := tx_dg3 (m := m) (by omega)
    have := ih (by omega)
    show (z_lP s.2.1 s.2.2.2.2.2.1 v k ++ (if z_bi (s.2.2.2.2.2.1 v) k = true then [60] ++ z_dgs (s.2.1 k).toNatClampNeg else [])).length ≤ _
    rw [List.length_append]
    split
    · rw [List.length_append, z_dglen, e, nI_clamp (by omega)]
      show _ + (1 + _) ≤ _
      omega
    · show _ + 0 ≤ _
      omega
theorem z_dPlen3 (V : z_V B s) (hB : B ≤ 1000) : ∀ k, k ≤ s.2.2.2.2.2.2.2.2.1 → (z_dP s.2.2.2.2.2.2.2.2.2.1 k).length ≤ 5 * k := by
  intro k
  induction k with
  | zero =>
    intro _
    exact Nat.le_refl 0
  | succ k ih =>
    intro hk
    obtain ⟨m, hm, e⟩ := z_mvN V (by omega : k < s.2.2.2.2.2.2.2.2.1)
    have h2 := tx_dg3 (m := m) (by omega)
    have := ih (by omega)
    show (((z_dP s.2.2.2.2.2.2.2.2.2.1 k ++ (if k = 0 then [] else [32])) ++ (if k % 2 = 0 then [112] else [111])) ++ z_dgs (s.2.2.2.2.2.2.2.2.2.1 k).toNatClampNeg).length ≤ _
    rw [List.length_append, List.length_append, List.length_append, z_dglen, e, nI_clamp (by omega)]
    have a1 : (if k = 0 then ([] : List Int32) else [32]).length ≤ 1 := by
      split
      · exact Nat.zero_le _
      · exact Nat.le_refl 1
    have a2 : (if k % 2 = 0 then ([112] : List Int32) else [111]).length ≤ 1 := by
      split
      · exact Nat.le_refl 1
      · exact Nat.le_refl 1
    omega
end LENS
