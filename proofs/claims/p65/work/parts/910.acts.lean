/-! the law's operations: acts and build -/
theorem z_addN {B : Nat} {s : ZS} (xw xb : Int32) (hn : s.1 < 8) (hw : ∃ m, 1 ≤ m ∧ m ≤ 9 ∧ xw = nI m) : (x_apply 0 xw xb s).2.1 = s.1 + 1 := by
  obtain ⟨n, id, wt, ag, tg, att, ni, dy, mn, mv, en, wo, br⟩ := s
  obtain ⟨m, h1, h2, e⟩ := hw
  rw [x_apply_02]
  dsimp only at hn ⊢
  unfold x_st_apply0 x_st_add x_st_mustBeWeight
  rw [e, if_neg (fun b => by have := (nI_ltI (by omega) (by omega)).mp (show nI m < nI 1 from b); omega), if_pos (show nI m ≤ (9 : Int32) from (nI_leI (b := 9) (by omega) (by omega)).mpr h2)]
  dsimp only
  rw [if_pos hn]
theorem w_addArgumentN {g : q_G} {h : q_H} {d : Nat} {s : ZS} {lc : Nat} {fl : Nat → Int32} {B m : Nat} (X : z_X h s lc fl) (V : z_V B s) (hB : B < 2 ^ 30) (hn : s.1 < 8) (h1 : 1 ≤ m) (h2 : m ≤ 9) (hd : 13 ≤ d) : q_Spec g mL_addArgument d 4 24 [.ref 100, .int (nI m)] h (z_opP h lc fl (B + 1) (fun n => n = s.1 + 1)) := by
  obtain ⟨fs, hr⟩ := X.obj
  obtain ⟨V1, V2, V3⟩ := V.add hB (nI m) 0
  have ho : (∃ v, q_oI (x_apply 0 (nI m) 0 s).1 = .inl (some (.int v))) ∨ (q_oI (x_apply 0 (nI m) 0 s).1 = .inr "java/lang/IllegalArgumentException") ∨ (q_oI (x_apply 0 (nI m) 0 s).1 = .inr "java/lang/IllegalStateException") := by
    rcases V3 with ⟨v, ev⟩ | ev | ev
    · exact Or.inl ⟨v, by rw [ev]; rfl⟩
    · exact Or.inr (Or.inl (by rw [ev]; rfl))
    · exact Or.inr (Or.inr (by rw [ev]; rfl))
  have sp := k_addArgument (g := g) (d := d - 1) X (nI m) (by omega)
  refine q_Spec_mono (e_L_addArgument (dd := d - 1) hr ho (by omega) sp) (fun o h1' hQ => ?_)
  exact ⟨_, _, hQ.1, hQ.2.1, hQ.2.2, V1, z_addN (B := B) _ _ hn ⟨m, h1, h2, rfl⟩⟩
section ACTS
variable {g : q_G} {d mc ms : Nat} {lc : Nat} {fl : Nat → Int32}
/-- what acts and build leave -/
def z_acP (h : q_H) (lc : Nat) (fl : Nat → Int32) (B : Nat) : q_O → q_H → Prop := fun o h1 => ∃ s', o = .inl none ∧ z_X h1 s' lc fl ∧ q_zone h h1 100 115 ∧ z_V B s' ∧ 4 ≤ s'.1 ∧ s'.1 ≤ 7
theorem l_acts {h0 : q_H} {k n xv : Nat} {a4 a5 : Int32} {B1 : Nat} (hd : 14 ≤ d) (hB : B1 < 2 ^ 30) (hn : 4 ≤ n ∧ n ≤ 7) (hv : xv < 60) : ∀ r j kc ks B s h, j + r = n → z_X h s lc fl → z_V B s → s.1 = n → q_zone h0 h 100 115 → B + r ≤ B1 → kc + 9 * r ≤ mc → ks + 54 * r ≤ ms → q_W g mL_acts d mc ms (z_acP h0 lc fl B1) kc ks 246 [.ref 100, .ref 0, .int (nI k), .int (nI n), .int a4, .int a5, .int (nI xv), q_u, .int (nI j)] [] h := by
  intro r
  induction r with
  | zero =>
    intro j kc ks B s h hj X V hs z hb hkc hks
    refine q_iload dL_acts_246 rfl ?_
    refine q_iload_n dL_acts_248 rfl ?_
    refine q_icmp_ge 294 dL_acts_249 (by decide) (fun b => ?_) (fun b => absurd ((nI_leI (by omega) (by omega)).mpr (by omega)) b)
    refine q_goto 339 dL_acts_294 (by decide) ?_
    exact q_return dL_acts_339 rfl (by omega) (by omega) ⟨s, rfl, X, z, V.mono (by omega), by omega, by omega⟩
  | succ r ih =>
    intro j kc ks B s h hj X V hs z hb hkc hks
    have hm := Nat.mod_lt (xv + j) (show 0 < n by omega)
    refine q_iload dL_acts_246 rfl ?_
    refine q_iload_n dL_acts_248 rfl ?_
    refine q_icmp_ge 294 dL_acts_249 (by decide) (fun b => absurd ((nI_leI (by omega) (by omega)).mp b) (by omega)) (fun b => ?_)
    refine q_aload_n (by decide) dL_acts_252 rfl ?_
    refine q_aload_n (by decide) dL_acts_253 rfl ?_
    refine q_iload dL_acts_254 rfl ?_
    refine q_iload dL_acts_256 rfl ?_
    refine q_iaddN (a := xv) (b := j) dL_acts_258 ?_
    refine q_iload_n dL_acts_259 rfl ?_
    refine q_iremN (a := xv + j) (b := n) (by omega) (by omega) (by omega) dL_acts_260 ?_
    obtain ⟨fo1, ho1⟩ := X.obj
    refine q_invV (mc' := 1) (ms' := 6) (d' := d - 1) (as := [.int (nI ((xv + j) % n))]) dL_acts_261 kM_X10_idAt kL_L_104 kI_X10_idAt kS_X10_idAt rfl (kC_X10.1) ho1 rfl rfl (Nat.le_of_ble_eq_true rfl) (by omega) (by decide) (by omega) (by omega) (k_idAt (d := d - 1) X V (k := (xv + j) % n) (by omega) (by omega)) (q_kC (fun h1 hB => ?_)) q_xC
    obtain ⟨X1, z_1⟩ := hB
    have zz1 := z.trans z_1
    change q_W _ _ _ _ _ _ _ _ 264 [.ref 100, .ref 0, .int (nI k), .int (nI n), .int a4, .int a5, .int (nI xv), q_u, .int (nI j)] [.int (s.2.1 ((xv + j) % n)), .ref 100] _
    refine q_invSH (mc' := 3) (ms' := 18) (d' := d - 1) (as := [.ref 100, .int (s.2.1 ((xv + j) % n))]) dL_acts_264 kM_L_canMove kL_L_117 kT_L_canMove rfl rfl rfl (Nat.le_of_ble_eq_true rfl) (by omega) (by decide) (by omega) (by omega) (w_canMove (d := d - 1) X1 V _ (by omega)) (fun v2 h2 hB => ?_) (fun E2 h2 hB => by
        obtain ⟨w, e9, -⟩ := hB
        cases e9)
    obtain ⟨w2, e9, X2, z_2⟩ := hB
    injection e9 with e9
    subst e9
    have zz2 := zz1.trans z_2
    change q_W _ _ _ _ _ _ _ _ 267 [.ref 100, .ref 0, .int (nI k), .int (nI n), .int a4, .int a5, .int (nI xv), q_u, .int (nI j)] [.int w2] _
    refine q_iconst (v := 1) dL_acts_267 rfl ?_
    refine q_icmp_ne 288 dL_acts_268 (by decide) (fun b => ?_) (fun b => ?_)
    · refine q_iinc (x := nI j) (v := nI (j + 1)) dL_acts_288 rfl (nI_add _ 1) rfl ?_
      change q_W _ _ _ _ _ _ _ _ 291 [.ref 100, .ref 0, .int (nI k), .int (nI n), .int a4, .int a5, .int (nI xv), q_u, .int (nI (j + 1))] [] _
      refine q_goto 246 dL_acts_291 (by decide) ?_
      exact ih (j + 1) _ _ B s h2 (by omega) X2 V hs zz2 (by omega) (by omega) (by omega)
    · refine q_aload_n (by decide) dL_acts_271 rfl ?_
      refine q_aload_n (by decide) dL_acts_272 rfl ?_
      refine q_iload dL_acts_273 rfl ?_
      refine q_iload dL_acts_275 rfl ?_
      refine q_iaddN (a := xv) (b := j) dL_acts_277 ?_
      refine q_iload_n dL_acts_278 rfl ?_
      refine q_iremN (a := xv + j) (b := n) (by omega) (by omega) (by omega) dL_acts_279 ?_
      obtain ⟨fo3, ho3⟩ := X2.obj
      refine q_invV (mc' := 1) (ms' := 6) (d' := d - 1) (as := [.int (nI ((xv + j) % n))]) dL_acts_280 kM_X10_idAt kL_L_104 kI_X10_idAt kS_X10_idAt rfl (kC_X10.1) ho3 rfl rfl (Nat.le_of_ble_eq_true rfl) (by omega) (by decide) (by omega) (by omega) (k_idAt (d := d - 1) X2 V (k := (xv + j) % n) (by omega) (by omega)) (q_kC (fun h3 hB => ?_)) q_xC
      obtain ⟨X3, z_3⟩ := hB
      have zz3 := zz2.trans z_3
      change q_W _ _ _ _ _ _ _ _ 283 [.ref 100, .ref 0, .int (nI k), .int (nI n), .int a4, .int a5, .int (nI xv), q_u, .int (nI j)] [.int (s.2.1 ((xv + j) % n)), .ref 100] _
      refine q_invSH (mc' := 4) (ms' := 24) (d' := d - 1) (as := [.ref 100, .int (s.2.1 ((xv + j) % n))]) dL_acts_283 kM_L_move kL_L_119 kT_L_move rfl rfl rfl (Nat.le_of_ble_eq_true rfl) (by omega) (by decide) (by omega) (by omega) (w_move (d := d - 1) X3 V (by omega) _ (by omega)) (fun v4 h4 hB => ?_) (fun E4 h4 hB => by
          obtain ⟨w, s9, e9, -⟩ := hB
          cases e9)
      obtain ⟨w4, s4, e9, X4, z_4, V4, ns4⟩ := hB
      injection e9 with e9
      subst e9
      have zz4 := zz3.trans z_4
      change q_W _ _ _ _ _ _ _ _ 286 [.ref 100, .ref 0, .int (nI k), .int (nI n), .int a4, .int a5, .int (nI xv), q_u, .int (nI j)] [.int w4] _
      have ns : s4.1 = s.1 := ns4
      refine q_istore dL_acts_286 (by decide) rfl ?_
      change q_W _ _ _ _ _ _ _ _ 288 [.ref 100, .ref 0, .int (nI k), .int (nI n), .int a4, .int a5, .int (nI xv), .int w4, .int (nI j)] [] _
      refine q_forget 7 ?_
      change q_W _ _ _ _ _ _ _ _ 288 [.ref 100, .ref 0, .int (nI k), .int (nI n), .int a4, .int a5, .int (nI xv), q_u, .int (nI j)] [] _
      refine q_iinc (x := nI j) (v := nI (j + 1)) dL_acts_288 rfl (nI_add _ 1) rfl ?_
      change q_W _ _ _ _ _ _ _ _ 291 [.ref 100, .ref 0, .int (nI k), .int (nI n), .int a4, .int a5, .int (nI xv), q_u, .int (nI (j + 1))] [] _
      refine q_goto 246 dL_acts_291 (by decide) ?_
      exact ih (j + 1) _ _ (B + 1) s4 h4 (by omega) X4 V4 (by omega) zz4 (by omega) (by omega) (by omega)
theorem e_acts {h : q_H} {s : ZS} {B k : Nat} (X : z_X h s lc fl) (V : z_V B s) (hB : B + 8 < 2 ^ 30) (hn : 4 ≤ s.1 ∧ s.1 ≤ 7) (ho : q_isold g 0) (hN : g.2.2.2.2.2.1 < 2 ^ 31) (hk : k + 2 < 2 ^ 31) (hd : 14 ≤ d) : q_Spec g mL_acts d 80 480 [.ref 100, .ref 0, .int (nI k)] h (z_acP h lc fl (B + 8)) := by
  refine q_enter (by decide +kernel) rfl rfl (Nat.le_of_ble_eq_true rfl) (fun hz => ?_)
  have zz0 : q_zone h h 100 115 := q_zone.rfl'
  change q_W _ _ _ _ _ _ _ _ 0 [.ref 100, .ref 0, .int (nI k), q_u, q_u, q_u, q_u, q_u, q_u] [] _
  refine q_aload_n (by decide) dL_acts_0 rfl ?_
  obtain ⟨fo1, ho1⟩ := X.obj
  refine q_invV (mc' := 0) (ms' := 0) (d' := d - 1) (as := []) dL_acts_1 kM_X10_argumentCount kL_L_101 kI_X10_argumentCount kS_X10_argumentCount rfl (kC_X10.1) ho1 rfl rfl (Nat.le_of_ble_eq_true rfl) (by omega) (by decide) (by omega) (by omega) (k_argumentCount (d := d - 1) X V (by omega)) (q_kC (fun h1 hB => ?_)) q_xC
  obtain ⟨X1, z_1⟩ := hB
  have zz1 := zz0.trans z_1
  change q_W _ _ _ _ _ _ _ _ 4 [.ref 100, .ref 0, .int (nI k), q_u, q_u, q_u, q_u, q_u, q_u] [.int (nI s.1)] _
  refine q_istore_n dL_acts_4 (by decide) rfl ?_
  change q_W _ _ _ _ _ _ _ _ 5 [.ref 100, .ref 0, .int (nI k), .int (nI s.1), q_u, q_u, q_u, q_u, q_u] [] _
  refine q_aload_n (by decide) dL_acts_5 rfl ?_
  refine q_aload_nO ho dL_acts_6 rfl ?_
  refine q_iload_n dL_acts_7 rfl ?_
  refine q_iconst (v := 1) dL_acts_8 rfl ?_
  refine q_iaddN (a := k) (b := 1) dL_acts_9 ?_
  refine q_iload_n dL_acts_10 rfl ?_
  obtain ⟨m2, hm2, sp2⟩ := e_some (g := g) (d := d - 1) (h := h1) (k := k + 1) (n := s.1) ho hN (by omega) (by omega) (by omega) (by omega)
  refine q_invS (mc' := 0) (ms' := 0) (d' := d - 1) (as := [.ref 0, .int (nI (k + 1)), .int (nI s.1)]) dL_acts_11 kM_L_some kL_L_87 kT_L_some rfl rfl rfl (Nat.le_of_ble_eq_true rfl) (by omega) (by decide) (by omega) (by omega) (sp2) (q_kR ?_) q_xR
  change q_W _ _ _ _ _ _ _ _ 14 [.ref 100, .ref 0, .int (nI k), .int (nI s.1), q_u, q_u, q_u, q_u, q_u] [.int (nI m2), .ref 100] _
  obtain ⟨fo4, ho4⟩ := X1.obj
  refine q_invV (mc' := 1) (ms' := 6) (d' := d - 1) (as := [.int (nI m2)]) dL_acts_14 kM_X10_idAt kL_L_104 kI_X10_idAt kS_X10_idAt rfl (kC_X10.1) ho4 rfl rfl (Nat.le_of_ble_eq_true rfl) (by omega) (by decide) (by omega) (by omega) (k_idAt (d := d - 1) X1 V (k := m2) hm2 (by omega)) (q_kC (fun h4 hB => ?_)) q_xC
  obtain ⟨X4, z_4⟩ := hB
  have zz4 := zz1.trans z_4
  change q_W _ _ _ _ _ _ _ _ 17 [.ref 100, .ref 0, .int (nI k), .int (nI s.1), q_u, q_u, q_u, q_u, q_u] [.int (s.2.1 m2)] _
  refine q_istore dL_acts_17 (by decide) rfl ?_
  change q_W _ _ _ _ _ _ _ _ 19 [.ref 100, .ref 0, .int (nI k), .int (nI s.1), .int (s.2.1 m2), q_u, q_u, q_u, q_u] [] _
  refine q_aload_n (by decide) dL_acts_19 rfl ?_
  refine q_aload_nO ho dL_acts_20 rfl ?_
  refine q_iload_n dL_acts_21 rfl ?_
  refine q_iconst (v := 2) dL_acts_22 rfl ?_
  refine q_iaddN (a := k) (b := 2) dL_acts_23 ?_
  refine q_iload_n dL_acts_24 rfl ?_
  obtain ⟨m5, hm5, sp5⟩ := e_some (g := g) (d := d - 1) (h := h4) (k := k + 2) (n := s.1) ho hN (by omega) (by omega) (by omega) (by omega)
  refine q_invS (mc' := 0) (ms' := 0) (d' := d - 1) (as := [.ref 0, .int (nI (k + 2)), .int (nI s.1)]) dL_acts_25 kM_L_some kL_L_87 kT_L_some rfl rfl rfl (Nat.le_of_ble_eq_true rfl) (by omega) (by decide) (by omega) (by omega) (sp5) (q_kR ?_) q_xR
  change q_W _ _ _ _ _ _ _ _ 28 [.ref 100, .ref 0, .int (nI k), .int (nI s.1), .int (s.2.1 m2), q_u, q_u, q_u, q_u] [.int (nI m5), .ref 100] _
  obtain ⟨fo7, ho7⟩ := X4.obj
  refine q_invV (mc' := 1) (ms' := 6) (d' := d - 1) (as := [.int (nI m5)]) dL_acts_28 kM_X10_idAt kL_L_104 kI_X10_idAt kS_X10_idAt rfl (kC_X10.1) ho7 rfl rfl (Nat.le_of_ble_eq_true rfl) (by omega) (by decide) (by omega) (by omega) (k_idAt (d := d - 1) X4 V (k := m5) hm5 (by omega)) (q_kC (fun h7 hB => ?_)) q_xC
  obtain ⟨X7, z_7⟩ := hB
  have zz7 := zz4.trans z_7
  change q_W _ _ _ _ _ _ _ _ 31 [.ref 100, .ref 0, .int (nI k), .int (nI s.1), .int (s.2.1 m2), q_u, q_u, q_u, q_u] [.int (s.2.1 m5)] _
  refine q_istore dL_acts_31 (by decide) rfl ?_
  change q_W _ _ _ _ _ _ _ _ 33 [.ref 100, .ref 0, .int (nI k), .int (nI s.1), .int (s.2.1 m2), .int (s.2.1 m5), q_u, q_u, q_u] [] _
  refine q_aload_nO ho dL_acts_33 rfl ?_
  refine q_iload_n dL_acts_34 rfl ?_
  refine q_iconst (v := 2) dL_acts_35 rfl ?_
  refine q_iaddN (a := k) (b := 2) dL_acts_36 ?_
  refine q_bipush (v := 60) dL_acts_37 rfl ?_
  obtain ⟨m8, hm8, sp8⟩ := e_some (g := g) (d := d - 1) (h := h7) (k := k + 2) (n := 60) ho hN (by omega) (by omega) (by omega) (by omega)
  refine q_invS (mc' := 0) (ms' := 0) (d' := d - 1) (as := [.ref 0, .int (nI (k + 2)), .int 60]) dL_acts_39 kM_L_some kL_L_87 kT_L_some rfl rfl rfl (Nat.le_of_ble_eq_true rfl) (by omega) (by decide) (by omega) (by omega) (sp8) (q_kR ?_) q_xR
  change q_W _ _ _ _ _ _ _ _ 42 [.ref 100, .ref 0, .int (nI k), .int (nI s.1), .int (s.2.1 m2), .int (s.2.1 m5), q_u, q_u, q_u] [.int (nI m8)] _
  refine q_istore dL_acts_42 (by decide) rfl ?_
  change q_W _ _ _ _ _ _ _ _ 44 [.ref 100, .ref 0, .int (nI k), .int (nI s.1), .int (s.2.1 m2), .int (s.2.1 m5), .int (nI m8), q_u, q_u] [] _
  refine q_aload_nO ho dL_acts_44 rfl ?_
  refine q_iload_n dL_acts_45 rfl ?_
  refine q_bipush (v := 16) dL_acts_46 rfl ?_
  obtain ⟨m10, hm10, sp10⟩ := e_some (g := g) (d := d - 1) (h := h7) (k := k) (n := 16) ho hN (by omega) (by omega) (by omega) (by omega)
  refine q_invS (mc' := 0) (ms' := 0) (d' := d - 1) (as := [.ref 0, .int (nI k), .int 16]) dL_acts_48 kM_L_some kL_L_87 kT_L_some rfl rfl rfl (Nat.le_of_ble_eq_true rfl) (by omega) (by decide) (by omega) (by omega) (sp10) (q_kR ?_) q_xR
  change q_W _ _ _ _ _ _ _ _ 51 [.ref 100, .ref 0, .int (nI k), .int (nI s.1), .int (s.2.1 m2), .int (s.2.1 m5), .int (nI m8), q_u, q_u] [.int (nI m10)] _
  match m10, hm10 with
  | 0, _ =>
    refine q_tableIn (off := 73) 124 dL_acts_51 (by decide) (by decide) (by decide +kernel) (by decide) ?_
    refine q_iload_n dL_acts_124 rfl ?_
    refine q_bipush (v := 7) dL_acts_125 rfl ?_
    refine q_icmp_ge 144 dL_acts_127 (by decide) (fun b => ?_) (fun b => ?_)
    · refine q_iconst (v := 0) dL_acts_144 rfl ?_
      refine q_istore dL_acts_145 (by decide) rfl ?_
      change q_W _ _ _ _ _ _ _ _ 147 [.ref 100, .ref 0, .int (nI k), .int (nI s.1), .int (s.2.1 m2), .int (s.2.1 m5), .int (nI m8), .int 0, q_u] [] _
      refine q_goto 339 dL_acts_147 (by decide) ?_
      exact q_return dL_acts_339 rfl (by omega) (by omega) ⟨s, rfl, X7, zz7, V.mono (by omega), by omega, by omega⟩
    · have hs7 : s.1 < 7 := by
          refine Nat.lt_of_not_le (fun c => b ?_)
          exact (nI_leI (a := 7) (by omega) (by omega)).mpr c
      refine q_aload_n (by decide) dL_acts_130 rfl ?_
      refine q_iconst (v := 1) dL_acts_131 rfl ?_
      refine q_iload dL_acts_132 rfl ?_
      refine q_bipush (v := 9) dL_acts_134 rfl ?_
      refine q_iremN (a := m8) (b := 9) (by omega) (by omega) (by omega) dL_acts_136 ?_
      refine q_iaddN (a := 1) (b := m8 % 9) dL_acts_137 ?_
      refine q_invSH (mc' := 4) (ms' := 24) (d' := d - 1) (as := [.ref 100, .int (nI (1 + (m8 % 9)))]) dL_acts_138 kM_L_addArgument kL_L_91 kT_L_addArgument rfl rfl rfl (Nat.le_of_ble_eq_true rfl) (by omega) (by decide) (by omega) (by omega) (w_addArgument (d := d - 1) X7 V (by omega) _ (by omega)) (fun v12 h12 hB => ?_) (fun E12 h12 hB => by
          obtain ⟨w, s9, e9, -⟩ := hB
          cases e9)
      obtain ⟨w12, s12, e9, X12, z_12, V12, ns12⟩ := hB
      injection e9 with e9
      subst e9
      have zz12 := zz7.trans z_12
      change q_W _ _ _ _ _ _ _ _ 141 [.ref 100, .ref 0, .int (nI k), .int (nI s.1), .int (s.2.1 m2), .int (s.2.1 m5), .int (nI m8), q_u, q_u] [.int w12] _
      have ns : s12.1 = s.1 ∨ s12.1 = s.1 + 1 := ns12
      refine q_goto 145 dL_acts_141 (by decide) ?_
      refine q_istore dL_acts_145 (by decide) rfl ?_
      change q_W _ _ _ _ _ _ _ _ 147 [.ref 100, .ref 0, .int (nI k), .int (nI s.1), .int (s.2.1 m2), .int (s.2.1 m5), .int (nI m8), .int w12, q_u] [] _
      refine q_goto 339 dL_acts_147 (by decide) ?_
      exact q_return dL_acts_339 rfl (by omega) (by omega) ⟨s12, rfl, X12, zz12, V12.mono (by omega), by omega, by omega⟩
  | 1, _ =>
    refine q_tableIn (off := 99) 150 dL_acts_51 (by decide) (by decide) (by decide +kernel) (by decide) ?_
    refine q_iload_n dL_acts_150 rfl ?_
    refine q_iconst (v := 4) dL_acts_151 rfl ?_
    refine q_icmp_le 171 dL_acts_152 (by decide) (fun b => ?_) (fun b => ?_)
    · refine q_iconst (v := 0) dL_acts_171 rfl ?_
      refine q_istore dL_acts_172 (by decide) rfl ?_
      change q_W _ _ _ _ _ _ _ _ 174 [.ref 100, .ref 0, .int (nI k), .int (nI s.1), .int (s.2.1 m2), .int (s.2.1 m5), .int (nI m8), .int 0, q_u] [] _
      refine q_goto 339 dL_acts_174 (by decide) ?_
      exact q_return dL_acts_339 rfl (by omega) (by omega) ⟨s, rfl, X7, zz7, V.mono (by omega), by omega, by omega⟩
    · have hs4 : 4 < s.1 := by
          refine Nat.lt_of_not_le (fun c => b ?_)
          exact (nI_leI (b := 4) (by omega) (by omega)).mpr c
      refine q_iload dL_acts_155 rfl ?_
      refine q_iconst (v := 2) dL_acts_157 rfl ?_
      refine q_iremN (a := m8) (b := 2) (by omega) (by omega) (by omega) dL_acts_158 ?_
      refine q_if_ne 171 dL_acts_159 (by decide) (fun b2 => ?_) (fun b2 => ?_)
      · refine q_iconst (v := 0) dL_acts_171 rfl ?_
        refine q_istore dL_acts_172 (by decide) rfl ?_
        change q_W _ _ _ _ _ _ _ _ 174 [.ref 100, .ref 0, .int (nI k), .int (nI s.1), .int (s.2.1 m2), .int (s.2.1 m5), .int (nI m8), .int 0, q_u] [] _
        refine q_goto 339 dL_acts_174 (by decide) ?_
        exact q_return dL_acts_339 rfl (by omega) (by omega) ⟨s, rfl, X7, zz7, V.mono (by omega), by omega, by omega⟩
      · refine q_aload_n (by decide) dL_acts_162 rfl ?_
        refine q_iload dL_acts_163 rfl ?_
        refine q_invSH (mc' := 4) (ms' := 24) (d' := d - 1) (as := [.ref 100, .int (s.2.1 m2)]) dL_acts_165 kM_L_removeArgument kL_L_107 kT_L_removeArgument rfl rfl rfl (Nat.le_of_ble_eq_true rfl) (by omega) (by decide) (by omega) (by omega) (w_removeArgument (d := d - 1) X7 V (by omega) _ (by omega)) (fun v13 h13 hB => ?_) (fun E13 h13 hB => by
            obtain ⟨w, s9, e9, -⟩ := hB
            cases e9)
        obtain ⟨w13, s13, e9, X13, z_13, V13, ns13⟩ := hB
        injection e9 with e9
        subst e9
        have zz13 := zz7.trans z_13
        change q_W _ _ _ _ _ _ _ _ 168 [.ref 100, .ref 0, .int (nI k), .int (nI s.1), .int (s.2.1 m2), .int (s.2.1 m5), .int (nI m8), q_u, q_u] [.int w13] _
        have ns : s13.1 = s.1 ∨ s13.1 = s.1 - 1 := ns13
        refine q_goto 172 dL_acts_168 (by decide) ?_
        refine q_istore dL_acts_172 (by decide) rfl ?_
        change q_W _ _ _ _ _ _ _ _ 174 [.ref 100, .ref 0, .int (nI k), .int (nI s.1), .int (s.2.1 m2), .int (s.2.1 m5), .int (nI m8), .int w13, q_u] [] _
        refine q_goto 339 dL_acts_174 (by decide) ?_
        exact q_return dL_acts_339 rfl (by omega) (by omega) ⟨s13, rfl, X13, zz13, V13.mono (by omega), by omega, by omega⟩
  | 2, _ =>
    refine q_tableIn (off := 126) 177 dL_acts_51 (by decide) (by decide) (by decide +kernel) (by decide) ?_
    refine q_aload_n (by decide) dL_acts_177 rfl ?_
    refine q_iload dL_acts_178 rfl ?_
    refine q_iload dL_acts_180 rfl ?_
    refine q_invSH (mc' := 4) (ms' := 24) (d' := d - 1) (as := [.ref 100, .int (s.2.1 m2), .int (s.2.1 m5)]) dL_acts_182 kM_L_addAttack kL_L_94 kT_L_addAttack rfl rfl rfl (Nat.le_of_ble_eq_true rfl) (by omega) (by decide) (by omega) (by omega) (w_addAttack (d := d - 1) X7 V (by omega) _ _ (by omega)) (fun v14 h14 hB => ?_) (fun E14 h14 hB => by
        obtain ⟨w, s9, e9, -⟩ := hB
        cases e9)
    obtain ⟨w14, s14, e9, X14, z_14, V14, ns14⟩ := hB
    injection e9 with e9
    subst e9
    have zz14 := zz7.trans z_14
    change q_W _ _ _ _ _ _ _ _ 185 [.ref 100, .ref 0, .int (nI k), .int (nI s.1), .int (s.2.1 m2), .int (s.2.1 m5), .int (nI m8), q_u, q_u] [.int w14] _
    have ns : s14.1 = s.1 := ns14
    refine q_istore dL_acts_185 (by decide) rfl ?_
    change q_W _ _ _ _ _ _ _ _ 187 [.ref 100, .ref 0, .int (nI k), .int (nI s.1), .int (s.2.1 m2), .int (s.2.1 m5), .int (nI m8), .int w14, q_u] [] _
    refine q_goto 339 dL_acts_187 (by decide) ?_
    exact q_return dL_acts_339 rfl (by omega) (by omega) ⟨s14, rfl, X14, zz14, V14.mono (by omega), by omega, by omega⟩
  | 3, _ =>
    refine q_tableIn (off := 126) 177 dL_acts_51 (by decide) (by decide) (by decide +kernel) (by decide) ?_
    refine q_aload_n (by decide) dL_acts_177 rfl ?_
    refine q_iload dL_acts_178 rfl ?_
    refine q_iload dL_acts_180 rfl ?_
    refine q_invSH (mc' := 4) (ms' := 24) (d' := d - 1) (as := [.ref 100, .int (s.2.1 m2), .int (s.2.1 m5)]) dL_acts_182 kM_L_addAttack kL_L_94 kT_L_addAttack rfl rfl rfl (Nat.le_of_ble_eq_true rfl) (by omega) (by decide) (by omega) (by omega) (w_addAttack (d := d - 1) X7 V (by omega) _ _ (by omega)) (fun v15 h15 hB => ?_) (fun E15 h15 hB => by
        obtain ⟨w, s9, e9, -⟩ := hB
        cases e9)
    obtain ⟨w15, s15, e9, X15, z_15, V15, ns15⟩ := hB
    injection e9 with e9
    subst e9
    have zz15 := zz7.trans z_15
    change q_W _ _ _ _ _ _ _ _ 185 [.ref 100, .ref 0, .int (nI k), .int (nI s.1), .int (s.2.1 m2), .int (s.2.1 m5), .int (nI m8), q_u, q_u] [.int w15] _
    have ns : s15.1 = s.1 := ns15
    refine q_istore dL_acts_185 (by decide) rfl ?_
    change q_W _ _ _ _ _ _ _ _ 187 [.ref 100, .ref 0, .int (nI k), .int (nI s.1), .int (s.2.1 m2), .int (s.2.1 m5), .int (nI m8), .int w15, q_u] [] _
    refine q_goto 339 dL_acts_187 (by decide) ?_
    exact q_return dL_acts_339 rfl (by omega) (by omega) ⟨s15, rfl, X15, zz15, V15.mono (by omega), by omega, by omega⟩
  | 4, _ =>
    refine q_tableIn (off := 126) 177 dL_acts_51 (by decide) (by decide) (by decide +kernel) (by decide) ?_
    refine q_aload_n (by decide) dL_acts_177 rfl ?_
    refine q_iload dL_acts_178 rfl ?_
    refine q_iload dL_acts_180 rfl ?_
    refine q_invSH (mc' := 4) (ms' := 24) (d' := d - 1) (as := [.ref 100, .int (s.2.1 m2), .int (s.2.1 m5)]) dL_acts_182 kM_L_addAttack kL_L_94 kT_L_addAttack rfl rfl rfl (Nat.le_of_ble_eq_true rfl) (by omega) (by decide) (by omega) (by omega) (w_addAttack (d := d - 1) X7 V (by omega) _ _ (by omega)) (fun v16 h16 hB => ?_) (fun E16 h16 hB => by
        obtain ⟨w, s9, e9, -⟩ := hB
        cases e9)
    obtain ⟨w16, s16, e9, X16, z_16, V16, ns16⟩ := hB
    injection e9 with e9
    subst e9
    have zz16 := zz7.trans z_16
    change q_W _ _ _ _ _ _ _ _ 185 [.ref 100, .ref 0, .int (nI k), .int (nI s.1), .int (s.2.1 m2), .int (s.2.1 m5), .int (nI m8), q_u, q_u] [.int w16] _
    have ns : s16.1 = s.1 := ns16
    refine q_istore dL_acts_185 (by decide) rfl ?_
    change q_W _ _ _ _ _ _ _ _ 187 [.ref 100, .ref 0, .int (nI k), .int (nI s.1), .int (s.2.1 m2), .int (s.2.1 m5), .int (nI m8), .int w16, q_u] [] _
    refine q_goto 339 dL_acts_187 (by decide) ?_
    exact q_return dL_acts_339 rfl (by omega) (by omega) ⟨s16, rfl, X16, zz16, V16.mono (by omega), by omega, by omega⟩
  | 5, _ =>
    refine q_tableIn (off := 139) 190 dL_acts_51 (by decide) (by decide) (by decide +kernel) (by decide) ?_
    refine q_aload_n (by decide) dL_acts_190 rfl ?_
    refine q_iload dL_acts_191 rfl ?_
    refine q_iload dL_acts_193 rfl ?_
    refine q_invSH (mc' := 4) (ms' := 24) (d' := d - 1) (as := [.ref 100, .int (s.2.1 m2), .int (s.2.1 m5)]) dL_acts_195 kM_L_removeAttack kL_L_109 kT_L_removeAttack rfl rfl rfl (Nat.le_of_ble_eq_true rfl) (by omega) (by decide) (by omega) (by omega) (w_removeAttack (d := d - 1) X7 V (by omega) _ _ (by omega)) (fun v17 h17 hB => ?_) (fun E17 h17 hB => by
        obtain ⟨w, s9, e9, -⟩ := hB
        cases e9)
    obtain ⟨w17, s17, e9, X17, z_17, V17, ns17⟩ := hB
    injection e9 with e9
    subst e9
    have zz17 := zz7.trans z_17
    change q_W _ _ _ _ _ _ _ _ 198 [.ref 100, .ref 0, .int (nI k), .int (nI s.1), .int (s.2.1 m2), .int (s.2.1 m5), .int (nI m8), q_u, q_u] [.int w17] _
    have ns : s17.1 = s.1 := ns17
    refine q_istore dL_acts_198 (by decide) rfl ?_
    change q_W _ _ _ _ _ _ _ _ 200 [.ref 100, .ref 0, .int (nI k), .int (nI s.1), .int (s.2.1 m2), .int (s.2.1 m5), .int (nI m8), .int w17, q_u] [] _
    refine q_goto 339 dL_acts_200 (by decide) ?_
    exact q_return dL_acts_339 rfl (by omega) (by omega) ⟨s17, rfl, X17, zz17, V17.mono (by omega), by omega, by omega⟩
  | 6, _ =>
    refine q_tableIn (off := 152) 203 dL_acts_51 (by decide) (by decide) (by decide +kernel) (by decide) ?_
    refine q_aload_n (by decide) dL_acts_203 rfl ?_
    refine q_iload dL_acts_204 rfl ?_
    refine q_iconst (v := 1) dL_acts_206 rfl ?_
    refine q_iload dL_acts_207 rfl ?_
    refine q_bipush (v := 9) dL_acts_209 rfl ?_
    refine q_iremN (a := m8) (b := 9) (by omega) (by omega) (by omega) dL_acts_211 ?_
    refine q_iaddN (a := 1) (b := m8 % 9) dL_acts_212 ?_
    refine q_invSH (mc' := 4) (ms' := 24) (d' := d - 1) (as := [.ref 100, .int (s.2.1 m2), .int (nI (1 + (m8 % 9)))]) dL_acts_213 kM_L_setWeight kL_L_111 kT_L_setWeight rfl rfl rfl (Nat.le_of_ble_eq_true rfl) (by omega) (by decide) (by omega) (by omega) (w_setWeight (d := d - 1) X7 V (by omega) _ _ (by omega)) (fun v18 h18 hB => ?_) (fun E18 h18 hB => by
        obtain ⟨w, s9, e9, -⟩ := hB
        cases e9)
    obtain ⟨w18, s18, e9, X18, z_18, V18, ns18⟩ := hB
    injection e9 with e9
    subst e9
    have zz18 := zz7.trans z_18
    change q_W _ _ _ _ _ _ _ _ 216 [.ref 100, .ref 0, .int (nI k), .int (nI s.1), .int (s.2.1 m2), .int (s.2.1 m5), .int (nI m8), q_u, q_u] [.int w18] _
    have ns : s18.1 = s.1 := ns18
    refine q_istore dL_acts_216 (by decide) rfl ?_
    change q_W _ _ _ _ _ _ _ _ 218 [.ref 100, .ref 0, .int (nI k), .int (nI s.1), .int (s.2.1 m2), .int (s.2.1 m5), .int (nI m8), .int w18, q_u] [] _
    refine q_goto 339 dL_acts_218 (by decide) ?_
    exact q_return dL_acts_339 rfl (by omega) (by omega) ⟨s18, rfl, X18, zz18, V18.mono (by omega), by omega, by omega⟩
  | 7, _ =>
    refine q_tableIn (off := 170) 221 dL_acts_51 (by decide) (by decide) (by decide +kernel) (by decide) ?_
    refine q_aload_n (by decide) dL_acts_221 rfl ?_
    refine q_iload dL_acts_222 rfl ?_
    refine q_invSH (mc' := 4) (ms' := 24) (d' := d - 1) (as := [.ref 100, .int (s.2.1 m2)]) dL_acts_224 kM_L_renew kL_L_113 kT_L_renew rfl rfl rfl (Nat.le_of_ble_eq_true rfl) (by omega) (by decide) (by omega) (by omega) (w_renew (d := d - 1) X7 V (by omega) _ (by omega)) (fun v19 h19 hB => ?_) (fun E19 h19 hB => by
        obtain ⟨w, s9, e9, -⟩ := hB
        cases e9)
    obtain ⟨w19, s19, e9, X19, z_19, V19, ns19⟩ := hB
    injection e9 with e9
    subst e9
    have zz19 := zz7.trans z_19
    change q_W _ _ _ _ _ _ _ _ 227 [.ref 100, .ref 0, .int (nI k), .int (nI s.1), .int (s.2.1 m2), .int (s.2.1 m5), .int (nI m8), q_u, q_u] [.int w19] _
    have ns : s19.1 = s.1 := ns19
    refine q_istore dL_acts_227 (by decide) rfl ?_
    change q_W _ _ _ _ _ _ _ _ 229 [.ref 100, .ref 0, .int (nI k), .int (nI s.1), .int (s.2.1 m2), .int (s.2.1 m5), .int (nI m8), .int w19, q_u] [] _
    refine q_goto 339 dL_acts_229 (by decide) ?_
    exact q_return dL_acts_339 rfl (by omega) (by omega) ⟨s19, rfl, X19, zz19, V19.mono (by omega), by omega, by omega⟩
  | 8, _ =>
    refine q_tableIn (off := 181) 232 dL_acts_51 (by decide) (by decide) (by decide +kernel) (by decide) ?_
    refine q_aload_n (by decide) dL_acts_232 rfl ?_
    refine q_iload dL_acts_233 rfl ?_
    refine q_invSH (mc' := 4) (ms' := 24) (d' := d - 1) (as := [.ref 100, .int (s.2.1 m2)]) dL_acts_235 kM_L_startDialogue kL_L_115 kT_L_startDialogue rfl rfl rfl (Nat.le_of_ble_eq_true rfl) (by omega) (by decide) (by omega) (by omega) (w_startDialogue (d := d - 1) X7 V (by omega) _ (by omega)) (fun v20 h20 hB => ?_) (fun E20 h20 hB => by
        obtain ⟨w, s9, e9, -⟩ := hB
        cases e9)
    obtain ⟨w20, s20, e9, X20, z_20, V20, ns20⟩ := hB
    injection e9 with e9
    subst e9
    have zz20 := zz7.trans z_20
    change q_W _ _ _ _ _ _ _ _ 238 [.ref 100, .ref 0, .int (nI k), .int (nI s.1), .int (s.2.1 m2), .int (s.2.1 m5), .int (nI m8), q_u, q_u] [.int w20] _
    have ns : s20.1 = s.1 := ns20
    refine q_istore dL_acts_238 (by decide) rfl ?_
    change q_W _ _ _ _ _ _ _ _ 240 [.ref 100, .ref 0, .int (nI k), .int (nI s.1), .int (s.2.1 m2), .int (s.2.1 m5), .int (nI m8), .int w20, q_u] [] _
    refine q_goto 339 dL_acts_240 (by decide) ?_
    exact q_return dL_acts_339 rfl (by omega) (by omega) ⟨s20, rfl, X20, zz20, V20.mono (by omega), by omega, by omega⟩
  | 9, _ =>
    refine q_tableIn (off := 181) 232 dL_acts_51 (by decide) (by decide) (by decide +kernel) (by decide) ?_
    refine q_aload_n (by decide) dL_acts_232 rfl ?_
    refine q_iload dL_acts_233 rfl ?_
    refine q_invSH (mc' := 4) (ms' := 24) (d' := d - 1) (as := [.ref 100, .int (s.2.1 m2)]) dL_acts_235 kM_L_startDialogue kL_L_115 kT_L_startDialogue rfl rfl rfl (Nat.le_of_ble_eq_true rfl) (by omega) (by decide) (by omega) (by omega) (w_startDialogue (d := d - 1) X7 V (by omega) _ (by omega)) (fun v21 h21 hB => ?_) (fun E21 h21 hB => by
        obtain ⟨w, s9, e9, -⟩ := hB
        cases e9)
    obtain ⟨w21, s21, e9, X21, z_21, V21, ns21⟩ := hB
    injection e9 with e9
    subst e9
    have zz21 := zz7.trans z_21
    change q_W _ _ _ _ _ _ _ _ 238 [.ref 100, .ref 0, .int (nI k), .int (nI s.1), .int (s.2.1 m2), .int (s.2.1 m5), .int (nI m8), q_u, q_u] [.int w21] _
    have ns : s21.1 = s.1 := ns21
    refine q_istore dL_acts_238 (by decide) rfl ?_
    change q_W _ _ _ _ _ _ _ _ 240 [.ref 100, .ref 0, .int (nI k), .int (nI s.1), .int (s.2.1 m2), .int (s.2.1 m5), .int (nI m8), .int w21, q_u] [] _
    refine q_goto 339 dL_acts_240 (by decide) ?_
    exact q_return dL_acts_339 rfl (by omega) (by omega) ⟨s21, rfl, X21, zz21, V21.mono (by omega), by omega, by omega⟩
  | 10, _ =>
    refine q_tableIn (off := 192) 243 dL_acts_51 (by decide) (by decide) (by decide +kernel) (by decide) ?_
    refine q_iconst (v := 0) dL_acts_243 rfl ?_
    refine q_istore dL_acts_244 (by decide) rfl ?_
    change q_W _ _ _ _ _ _ _ _ 246 [.ref 100, .ref 0, .int (nI k), .int (nI s.1), .int (s.2.1 m2), .int (s.2.1 m5), .int (nI m8), q_u, .int 0] [] _
    exact l_acts (by omega) (by omega) hn (by omega) s.1 0 _ _ B s h7 (by omega) X7 V rfl zz7 (by omega) (by omega) (by omega)
  | 11, _ =>
    refine q_tableIn (off := 192) 243 dL_acts_51 (by decide) (by decide) (by decide +kernel) (by decide) ?_
    refine q_iconst (v := 0) dL_acts_243 rfl ?_
    refine q_istore dL_acts_244 (by decide) rfl ?_
    change q_W _ _ _ _ _ _ _ _ 246 [.ref 100, .ref 0, .int (nI k), .int (nI s.1), .int (s.2.1 m2), .int (s.2.1 m5), .int (nI m8), q_u, .int 0] [] _
    exact l_acts (by omega) (by omega) hn (by omega) s.1 0 _ _ B s h7 (by omega) X7 V rfl zz7 (by omega) (by omega) (by omega)
  | 12, _ =>
    refine q_tableIn (off := 192) 243 dL_acts_51 (by decide) (by decide) (by decide +kernel) (by decide) ?_
    refine q_iconst (v := 0) dL_acts_243 rfl ?_
    refine q_istore dL_acts_244 (by decide) rfl ?_
    change q_W _ _ _ _ _ _ _ _ 246 [.ref 100, .ref 0, .int (nI k), .int (nI s.1), .int (s.2.1 m2), .int (s.2.1 m5), .int (nI m8), q_u, .int 0] [] _
    exact l_acts (by omega) (by omega) hn (by omega) s.1 0 _ _ B s h7 (by omega) X7 V rfl zz7 (by omega) (by omega) (by omega)
  | 13, _ =>
    refine q_tableIn (off := 246) 297 dL_acts_51 (by decide) (by decide) (by decide +kernel) (by decide) ?_
    refine q_aload_n (by decide) dL_acts_297 rfl ?_
    refine q_invSH (mc' := 4) (ms' := 24) (d' := d - 1) (as := [.ref 100]) dL_acts_298 kM_L_takeBack kL_L_121 kT_L_takeBack rfl rfl rfl (Nat.le_of_ble_eq_true rfl) (by omega) (by decide) (by omega) (by omega) (w_takeBack (d := d - 1) X7 V (by omega) (by omega)) (fun v22 h22 hB => ?_) (fun E22 h22 hB => by
        obtain ⟨w, s9, e9, -⟩ := hB
        cases e9)
    obtain ⟨w22, s22, e9, X22, z_22, V22, ns22⟩ := hB
    injection e9 with e9
    subst e9
    have zz22 := zz7.trans z_22
    change q_W _ _ _ _ _ _ _ _ 301 [.ref 100, .ref 0, .int (nI k), .int (nI s.1), .int (s.2.1 m2), .int (s.2.1 m5), .int (nI m8), q_u, q_u] [.int w22] _
    have ns : s22.1 = s.1 := ns22
    refine q_istore dL_acts_301 (by decide) rfl ?_
    change q_W _ _ _ _ _ _ _ _ 303 [.ref 100, .ref 0, .int (nI k), .int (nI s.1), .int (s.2.1 m2), .int (s.2.1 m5), .int (nI m8), .int w22, q_u] [] _
    refine q_goto 339 dL_acts_303 (by decide) ?_
    exact q_return dL_acts_339 rfl (by omega) (by omega) ⟨s22, rfl, X22, zz22, V22.mono (by omega), by omega, by omega⟩
  | 14, _ =>
    refine q_tableIn (off := 255) 306 dL_acts_51 (by decide) (by decide) (by decide +kernel) (by decide) ?_
    refine q_iload dL_acts_306 rfl ?_
    refine q_iconst (v := 3) dL_acts_308 rfl ?_
    refine q_iremN (a := m8) (b := 3) (by omega) (by omega) (by omega) dL_acts_309 ?_
    refine q_if_ne 320 dL_acts_310 (by decide) (fun b => ?_) (fun b => ?_)
    · refine q_iconst (v := 0) dL_acts_320 rfl ?_
      refine q_istore dL_acts_321 (by decide) rfl ?_
      change q_W _ _ _ _ _ _ _ _ 323 [.ref 100, .ref 0, .int (nI k), .int (nI s.1), .int (s.2.1 m2), .int (s.2.1 m5), .int (nI m8), .int 0, q_u] [] _
      refine q_goto 339 dL_acts_323 (by decide) ?_
      exact q_return dL_acts_339 rfl (by omega) (by omega) ⟨s, rfl, X7, zz7, V.mono (by omega), by omega, by omega⟩
    · refine q_aload_n (by decide) dL_acts_313 rfl ?_
      refine q_invSH (mc' := 4) (ms' := 24) (d' := d - 1) (as := [.ref 100]) dL_acts_314 kM_L_endDialogue kL_L_124 kT_L_endDialogue rfl rfl rfl (Nat.le_of_ble_eq_true rfl) (by omega) (by decide) (by omega) (by omega) (w_endDialogue (d := d - 1) X7 V (by omega) (by omega)) (fun v23 h23 hB => ?_) (fun E23 h23 hB => by
          obtain ⟨w, s9, e9, -⟩ := hB
          cases e9)
      obtain ⟨w23, s23, e9, X23, z_23, V23, ns23⟩ := hB
      injection e9 with e9
      subst e9
      have zz23 := zz7.trans z_23
      change q_W _ _ _ _ _ _ _ _ 317 [.ref 100, .ref 0, .int (nI k), .int (nI s.1), .int (s.2.1 m2), .int (s.2.1 m5), .int (nI m8), q_u, q_u] [.int w23] _
      have ns : s23.1 = s.1 := ns23
      refine q_goto 321 dL_acts_317 (by decide) ?_
      refine q_istore dL_acts_321 (by decide) rfl ?_
      change q_W _ _ _ _ _ _ _ _ 323 [.ref 100, .ref 0, .int (nI k), .int (nI s.1), .int (s.2.1 m2), .int (s.2.1 m5), .int (nI m8), .int w23, q_u] [] _
      refine q_goto 339 dL_acts_323 (by decide) ?_
      exact q_return dL_acts_339 rfl (by omega) (by omega) ⟨s23, rfl, X23, zz23, V23.mono (by omega), by omega, by omega⟩
  | 15, _ =>
    refine q_tableOut 326 dL_acts_51 (by decide) (by decide) ?_
    refine q_aload_n (by decide) dL_acts_326 rfl ?_
    refine q_iconst (v := 1) dL_acts_327 rfl ?_
    refine q_iload dL_acts_328 rfl ?_
    refine q_bipush (v := 20) dL_acts_330 rfl ?_
    refine q_iremN (a := m8) (b := 20) (by omega) (by omega) (by omega) dL_acts_332 ?_
    refine q_iaddN (a := 1) (b := m8 % 20) dL_acts_333 ?_
    refine q_invSH (mc' := 4) (ms' := 24) (d' := d - 1) (as := [.ref 100, .int (nI (1 + (m8 % 20)))]) dL_acts_334 kM_L_pass kL_L_126 kT_L_pass rfl rfl rfl (Nat.le_of_ble_eq_true rfl) (by omega) (by decide) (by omega) (by omega) (w_pass (d := d - 1) X7 V (by omega) _ (by omega)) (fun v24 h24 hB => ?_) (fun E24 h24 hB => by
        obtain ⟨w, s9, e9, -⟩ := hB
        cases e9)
    obtain ⟨w24, s24, e9, X24, z_24, V24, ns24⟩ := hB
    injection e9 with e9
    subst e9
    have zz24 := zz7.trans z_24
    change q_W _ _ _ _ _ _ _ _ 337 [.ref 100, .ref 0, .int (nI k), .int (nI s.1), .int (s.2.1 m2), .int (s.2.1 m5), .int (nI m8), q_u, q_u] [.int w24] _
    have ns : s24.1 = s.1 := ns24
    refine q_istore dL_acts_337 (by decide) rfl ?_
    change q_W _ _ _ _ _ _ _ _ 339 [.ref 100, .ref 0, .int (nI k), .int (nI s.1), .int (s.2.1 m2), .int (s.2.1 m5), .int (nI m8), .int w24, q_u] [] _
    exact q_return dL_acts_339 rfl (by omega) (by omega) ⟨s24, rfl, X24, zz24, V24.mono (by omega), by omega, by omega⟩
  | c + 16, hc => exact absurd hc (by omega)
/-- five arguments, some attacks, some changes -/
theorem l_build1 {Q : q_O → q_H → Prop} {h0 : q_H} (ho : q_isold g 0) (hN : g.2.2.2.2.2.1 < 2 ^ 31) (hd : 15 ≤ d) (K : ∀ kc ks B s h, z_X h s lc fl → z_V B s → s.1 = 5 → q_zone h0 h 100 115 → B ≤ 5 → kc ≤ 20 → ks ≤ 120 → q_W g mL_build d mc ms Q kc ks 27 [.ref 100, .ref 0, q_u, .int (nI 5)] [] h) (hmc : 20 ≤ mc) (hms : 120 ≤ ms) : ∀ r j kc ks s h, j + r = 5 → z_X h s lc fl → z_V j s → s.1 = j → q_zone h0 h 100 115 → kc ≤ 4 * j → ks ≤ 24 * j → q_W g mL_build d mc ms Q kc ks 2 [.ref 100, .ref 0, q_u, .int (nI j)] [] h := by
  intro r
  induction r with
  | zero =>
    intro j kc ks s h hj X V hs z hkc hks
    have e : j = 5 := by omega
    subst e
    refine q_iload_n dL_build_2 rfl ?_
    refine q_iconst (v := 5) dL_build_3 rfl ?_
    refine q_icmp_ge 27 dL_build_4 (by decide) (fun b => ?_) (fun b => absurd ((nI_leI (a := 5) (b := 5) (by omega) (by omega)).mpr (by omega)) b)
    exact K _ _ 5 s h X V hs z (by omega) (by omega) (by omega)
  | succ r ih =>
    intro j kc ks s h hj X V hs z hkc hks
    refine q_iload_n dL_build_2 rfl ?_
    refine q_iconst (v := 5) dL_build_3 rfl ?_
    refine q_icmp_ge 27 dL_build_4 (by decide) (fun b => absurd ((nI_leI (a := 5) (by omega) (by omega)).mp b) (by omega)) (fun b => ?_)
    refine q_aload_n (by decide) dL_build_7 rfl ?_
    refine q_iconst (v := 1) dL_build_8 rfl ?_
    refine q_aload_nO ho dL_build_9 rfl ?_
    refine q_iload_n dL_build_10 rfl ?_
    refine q_bipush (v := 9) dL_build_11 rfl ?_
    obtain ⟨m1, hm1, sp1⟩ := e_some (g := g) (d := d - 1) (h := h) (k := j) (n := 9) ho hN (by omega) (by omega) (by omega) (by omega)
    refine q_invS (mc' := 0) (ms' := 0) (d' := d - 1) (as := [.ref 0, .int (nI j), .int 9]) dL_build_13 kM_L_some kL_L_87 kT_L_some rfl rfl rfl (Nat.le_of_ble_eq_true rfl) (by omega) (by decide) (by omega) (by omega) (sp1) (q_kR ?_) q_xR
    change q_W _ _ _ _ _ _ _ _ 16 [.ref 100, .ref 0, q_u, .int (nI j)] [.int (nI m1), .int 1, .ref 100] _
    refine q_iaddN (a := 1) (b := m1) dL_build_16 ?_
    refine q_invSH (mc' := 4) (ms' := 24) (d' := d - 1) (as := [.ref 100, .int (nI (1 + m1))]) dL_build_17 kM_L_addArgument kL_L_91 kT_L_addArgument rfl rfl rfl (Nat.le_of_ble_eq_true rfl) (by omega) (by decide) (by omega) (by omega) (w_addArgumentN (d := d - 1) X V (by omega) (by omega) (by omega) (by omega) (by omega)) (fun v3 h3 hB => ?_) (fun E3 h3 hB => by
        obtain ⟨w, s9, e9, -⟩ := hB
        cases e9)
    obtain ⟨w3, s3, e9, X3, z_3, V3, ns3⟩ := hB
    injection e9 with e9
    subst e9
    have zz3 := z.trans z_3
    change q_W _ _ _ _ _ _ _ _ 20 [.ref 100, .ref 0, q_u, .int (nI j)] [.int w3] _
    have ns : s3.1 = s.1 + 1 := ns3
    refine q_istore_n dL_build_20 (by decide) rfl ?_
    change q_W _ _ _ _ _ _ _ _ 21 [.ref 100, .ref 0, .int w3, .int (nI j)] [] _
    refine q_forget 2 ?_
    change q_W _ _ _ _ _ _ _ _ 21 [.ref 100, .ref 0, q_u, .int (nI j)] [] _
    refine q_iinc (x := nI j) (v := nI (j + 1)) dL_build_21 rfl (nI_add _ 1) rfl ?_
    change q_W _ _ _ _ _ _ _ _ 24 [.ref 100, .ref 0, q_u, .int (nI (j + 1))] [] _
    refine q_goto 2 dL_build_24 (by decide) ?_
    exact ih (j + 1) _ _ s3 h3 (by omega) X3 V3 (by omega) zz3 (by omega) (by omega)
theorem l_build2 {Q : q_O → q_H → Prop} {h0 : q_H} (ho : q_isold g 0) (hN : g.2.2.2.2.2.1 < 2 ^ 31) (hd : 15 ≤ d) (K : ∀ kc ks B s h, z_X h s lc fl → z_V B s → s.1 = 5 → q_zone h0 h 100 115 → B ≤ 13 → kc ≤ 52 → ks ≤ 312 → q_W g mL_build d mc ms Q kc ks 64 [.ref 100, .ref 0, q_u, .int (nI 8)] [] h) (hmc : 52 ≤ mc) (hms : 312 ≤ ms) : ∀ r j kc ks B s h, j + r = 8 → z_X h s lc fl → z_V B s → s.1 = 5 → q_zone h0 h 100 115 → B ≤ 5 + j → kc ≤ 20 + 4 * j → ks ≤ 120 + 24 * j → q_W g mL_build d mc ms Q kc ks 29 [.ref 100, .ref 0, q_u, .int (nI j)] [] h := by
  intro r
  induction r with
  | zero =>
    intro j kc ks B s h hj X V hs z hb hkc hks
    have e : j = 8 := by omega
    subst e
    refine q_iload_n dL_build_29 rfl ?_
    refine q_bipush (v := 8) dL_build_30 rfl ?_
    refine q_icmp_ge 64 dL_build_32 (by decide) (fun b => ?_) (fun b => absurd ((nI_leI (a := 8) (b := 8) (by omega) (by omega)).mpr (by omega)) b)
    exact K _ _ B s h X V hs z (by omega) (by omega) (by omega)
  | succ r ih =>
    intro j kc ks B s h hj X V hs z hb hkc hks
    refine q_iload_n dL_build_29 rfl ?_
    refine q_bipush (v := 8) dL_build_30 rfl ?_
    refine q_icmp_ge 64 dL_build_32 (by decide) (fun b => absurd ((nI_leI (a := 8) (by omega) (by omega)).mp b) (by omega)) (fun b => ?_)
    refine q_aload_n (by decide) dL_build_35 rfl ?_
    refine q_aload_nO ho dL_build_36 rfl ?_
    refine q_bipush (v := 8) dL_build_37 rfl ?_
    refine q_iload_n dL_build_39 rfl ?_
    refine q_iaddN (a := 8) (b := j) dL_build_40 ?_
    refine q_iconst (v := 5) dL_build_41 rfl ?_
    obtain ⟨m1, hm1, sp1⟩ := e_some (g := g) (d := d - 1) (h := h) (k := 8 + j) (n := 5) ho hN (by omega) (by omega) (by omega) (by omega)
    refine q_invS (mc' := 0) (ms' := 0) (d' := d - 1) (as := [.ref 0, .int (nI (8 + j)), .int 5]) dL_build_42 kM_L_some kL_L_87 kT_L_some rfl rfl rfl (Nat.le_of_ble_eq_true rfl) (by omega) (by decide) (by omega) (by omega) (sp1) (q_kR ?_) q_xR
    change q_W _ _ _ _ _ _ _ _ 45 [.ref 100, .ref 0, q_u, .int (nI j)] [.int (nI m1), .ref 100] _
    refine q_aload_nO ho dL_build_45 rfl ?_
    refine q_bipush (v := 16) dL_build_46 rfl ?_
    refine q_iload_n dL_build_48 rfl ?_
    refine q_iaddN (a := 16) (b := j) dL_build_49 ?_
    refine q_iconst (v := 5) dL_build_50 rfl ?_
    obtain ⟨m3, hm3, sp3⟩ := e_some (g := g) (d := d - 1) (h := h) (k := 16 + j) (n := 5) ho hN (by omega) (by omega) (by omega) (by omega)
    refine q_invS (mc' := 0) (ms' := 0) (d' := d - 1) (as := [.ref 0, .int (nI (16 + j)), .int 5]) dL_build_51 kM_L_some kL_L_87 kT_L_some rfl rfl rfl (Nat.le_of_ble_eq_true rfl) (by omega) (by decide) (by omega) (by omega) (sp3) (q_kR ?_) q_xR
    change q_W _ _ _ _ _ _ _ _ 54 [.ref 100, .ref 0, q_u, .int (nI j)] [.int (nI m3), .int (nI m1), .ref 100] _
    refine q_invSH (mc' := 4) (ms' := 24) (d' := d - 1) (as := [.ref 100, .int (nI m1), .int (nI m3)]) dL_build_54 kM_L_addAttack kL_L_94 kT_L_addAttack rfl rfl rfl (Nat.le_of_ble_eq_true rfl) (by omega) (by decide) (by omega) (by omega) (w_addAttack (d := d - 1) X V (by omega) _ _ (by omega)) (fun v5 h5 hB => ?_) (fun E5 h5 hB => by
        obtain ⟨w, s9, e9, -⟩ := hB
        cases e9)
    obtain ⟨w5, s5, e9, X5, z_5, V5, ns5⟩ := hB
    injection e9 with e9
    subst e9
    have zz5 := z.trans z_5
    change q_W _ _ _ _ _ _ _ _ 57 [.ref 100, .ref 0, q_u, .int (nI j)] [.int w5] _
    have ns : s5.1 = s.1 := ns5
    refine q_istore_n dL_build_57 (by decide) rfl ?_
    change q_W _ _ _ _ _ _ _ _ 58 [.ref 100, .ref 0, .int w5, .int (nI j)] [] _
    refine q_forget 2 ?_
    change q_W _ _ _ _ _ _ _ _ 58 [.ref 100, .ref 0, q_u, .int (nI j)] [] _
    refine q_iinc (x := nI j) (v := nI (j + 1)) dL_build_58 rfl (nI_add _ 1) rfl ?_
    change q_W _ _ _ _ _ _ _ _ 61 [.ref 100, .ref 0, q_u, .int (nI (j + 1))] [] _
    refine q_goto 29 dL_build_61 (by decide) ?_
    exact ih (j + 1) _ _ _ s5 h5 (by omega) X5 V5 (by omega) zz5 (by omega) (by omega) (by omega)
theorem l_build3 {h0 : q_H} (ho : q_isold g 0) (hN : g.2.2.2.2.2.1 < 2 ^ 31) (hd : 15 ≤ d) (hmc : 1652 ≤ mc) (hms : 9912 ≤ ms) : ∀ r j kc ks B s h, j + r = 20 → z_X h s lc fl → z_V B s → 4 ≤ s.1 ∧ s.1 ≤ 7 → q_zone h0 h 100 115 → B ≤ 13 + 8 * j → kc ≤ 52 + 80 * j → ks ≤ 312 + 480 * j → q_W g mL_build d mc ms (z_acP h0 lc fl 173) kc ks 66 [.ref 100, .ref 0, q_u, .int (nI j)] [] h := by
  intro r
  induction r with
  | zero =>
    intro j kc ks B s h hj X V hs z hb hkc hks
    have e : j = 20 := by omega
    subst e
    refine q_iload_n dL_build_66 rfl ?_
    refine q_bipush (v := 20) dL_build_67 rfl ?_
    refine q_icmp_ge 89 dL_build_69 (by decide) (fun b => ?_) (fun b => absurd ((nI_leI (a := 20) (b := 20) (by omega) (by omega)).mpr (by omega)) b)
    exact q_return dL_build_89 rfl (by omega) (by omega) ⟨s, rfl, X, z, V.mono (by omega), by omega, by omega⟩
  | succ r ih =>
    intro j kc ks B s h hj X V hs z hb hkc hks
    refine q_iload_n dL_build_66 rfl ?_
    refine q_bipush (v := 20) dL_build_67 rfl ?_
    refine q_icmp_ge 89 dL_build_69 (by decide) (fun b => absurd ((nI_leI (a := 20) (by omega) (by omega)).mp b) (by omega)) (fun b => ?_)
    refine q_aload_n (by decide) dL_build_72 rfl ?_
    refine q_aload_nO ho dL_build_73 rfl ?_
    refine q_bipush (v := 24) dL_build_74 rfl ?_
    refine q_iconst (v := 3) dL_build_76 rfl ?_
    refine q_iload_n dL_build_77 rfl ?_
    refine q_imulN (a := 3) (b := j) dL_build_78 ?_
    refine q_iaddN (a := 24) (b := 3 * j) dL_build_79 ?_
    refine q_invS (mc' := 80) (ms' := 480) (d' := d - 1) (as := [.ref 100, .ref 0, .int (nI (24 + (3 * j)))]) dL_build_80 kM_L_acts kL_L_97 kT_L_acts rfl rfl rfl (Nat.le_of_ble_eq_true rfl) (by omega) (by decide) (by omega) (by omega) (e_acts (d := d - 1) X V (by omega) hs ho hN (by omega) (by omega)) (fun v1 h1 hB => ?_) (fun E1 h1 hB => by
        obtain ⟨s9, e9, -⟩ := hB
        cases e9)
    obtain ⟨s1, e9, X1, z_1, V1, na1, nb1⟩ := hB
    injection e9 with e9
    subst e9
    have zz1 := z.trans z_1
    change q_W _ _ _ _ _ _ _ _ 83 [.ref 100, .ref 0, q_u, .int (nI j)] [] _
    refine q_iinc (x := nI j) (v := nI (j + 1)) dL_build_83 rfl (nI_add _ 1) rfl ?_
    change q_W _ _ _ _ _ _ _ _ 86 [.ref 100, .ref 0, q_u, .int (nI (j + 1))] [] _
    refine q_goto 66 dL_build_86 (by decide) ?_
    exact ih (j + 1) _ _ _ s1 h1 (by omega) X1 V1 ⟨na1, nb1⟩ zz1 (by omega) (by omega) (by omega)
theorem e_build {h : q_H} {s : ZS} (X : z_X h s lc fl) (V : z_V 0 s) (hn : s.1 = 0) (ho : q_isold g 0) (hN : g.2.2.2.2.2.1 < 2 ^ 31) (hd : 15 ≤ d) : q_Spec g mL_build d 1652 9912 [.ref 100, .ref 0] h (z_acP h lc fl 173) := by
  refine q_enter (by decide +kernel) rfl rfl (Nat.le_of_ble_eq_true rfl) (fun hz => ?_)
  change q_W _ _ _ _ _ _ _ _ 0 [.ref 100, .ref 0, q_u, q_u] [] _
  refine q_iconst (v := 0) dL_build_0 rfl ?_
  refine q_istore_n dL_build_1 (by decide) rfl ?_
  change q_W _ _ _ _ _ _ _ _ 2 [.ref 100, .ref 0, q_u, .int 0] [] _
  refine l_build1 (h0 := h) (lc := lc) (fl := fl) ho hN hd (fun kc ks B s h1 X V hs z hb hkc hks => ?_) (by omega) (by omega) 5 0 _ _ s h (by omega) X V hn q_zone.rfl' (by omega) (by omega)
  refine q_iconst (v := 0) dL_build_27 rfl ?_
  refine q_istore_n dL_build_28 (by decide) rfl ?_
  change q_W _ _ _ _ _ _ _ _ 29 [.ref 100, .ref 0, q_u, .int 0] [] _
  refine l_build2 (h0 := h) (lc := lc) (fl := fl) ho hN hd (fun kc ks B s h1 X V hs z hb hkc hks => ?_) (by omega) (by omega) 8 0 _ _ B s h1 (by omega) X V hs z (by omega) (by omega) (by omega)
  refine q_iconst (v := 0) dL_build_64 rfl ?_
  refine q_istore_n dL_build_65 (by decide) rfl ?_
  change q_W _ _ _ _ _ _ _ _ 66 [.ref 100, .ref 0, q_u, .int 0] [] _
  exact l_build3 (h0 := h) (lc := lc) (fl := fl) ho hN hd (by omega) (by omega) 20 0 _ _ B s h1 (by omega) X V (by omega) z (by omega) (by omega) (by omega)
end ACTS
