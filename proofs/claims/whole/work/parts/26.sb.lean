def z_Sb1 (h : q_H) (b : Nat) (v : Nat) (ml : Int32) (cn : Nat) : Prop :=
  q_R0 ≤ b ∧
  b + 1 ≤ h.1 ∧
  cn ≤ 286 ∧
  h.2 (b) = some (.inr (1, [.ref (v), .int (0), .int (ml), .int (nI (cn))]))
theorem z_Sb1.r0 {h : q_H} {b : Nat} {v : Nat} {ml : Int32} {cn : Nat} (s : z_Sb1 h b v ml cn) : q_R0 ≤ b := s.1
theorem z_Sb1.s0 {h : q_H} {b : Nat} {v : Nat} {ml : Int32} {cn : Nat} (s : z_Sb1 h b v ml cn) : b + 1 ≤ h.1 := s.2.1
theorem z_Sb1.bcn {h : q_H} {b : Nat} {v : Nat} {ml : Int32} {cn : Nat} (s : z_Sb1 h b v ml cn) : cn ≤ 286 := s.2.2.1
theorem z_Sb1.c0 {h : q_H} {b : Nat} {v : Nat} {ml : Int32} {cn : Nat} (s : z_Sb1 h b v ml cn) : h.2 (b) = some (.inr (1, [.ref (v), .int (0), .int (ml), .int (nI (cn))])) := s.2.2.2
theorem z_Sb1.keep {h1 : q_H} {b1 k1 : Nat} {h : q_H} {b : Nat} {v : Nat} {ml : Int32} {cn : Nat} (s : z_Sb1 h b v ml cn) (q : q_same h h1 b1 k1) (hx : b + 1 ≤ b1 ∨ b1 + k1 ≤ b) : z_Sb1 h1 b v ml cn := by
  obtain ⟨w0, w1, w2, w3⟩ := s
  exact ⟨w0, Nat.le_trans w1 q.1, w2, (q.2 _ (by omega) (by omega)).trans w3⟩
theorem z_Sb1.put0 {h : q_H} {b : Nat} {v : Nat} {ml : Int32} {cn : Nat} (s : z_Sb1 h b v ml cn) {v' : Nat} {ml' : Int32} {cn' : Nat} (hbcn : cn' ≤ 286)  : z_Sb1 (q_set h (b) (.inr (1, [.ref (v'), .int (0), .int (ml'), .int (nI (cn'))]))) b v' ml' cn' := by
  obtain ⟨w0, w1, w2, w3⟩ := s
  exact ⟨w0, w1, hbcn, q_set_eq⟩
def z_By (h : q_H) (b : Nat) (cap : Nat) (bs : Nat → Int32) : Prop :=
  q_R0 ≤ b ∧
  b + 1 ≤ h.1 ∧
  cap ≤ 286 ∧
  h.2 (b) = some (.inl (3, cap, .inl (bs)))
theorem z_By.r0 {h : q_H} {b : Nat} {cap : Nat} {bs : Nat → Int32} (s : z_By h b cap bs) : q_R0 ≤ b := s.1
theorem z_By.s0 {h : q_H} {b : Nat} {cap : Nat} {bs : Nat → Int32} (s : z_By h b cap bs) : b + 1 ≤ h.1 := s.2.1
theorem z_By.bcap {h : q_H} {b : Nat} {cap : Nat} {bs : Nat → Int32} (s : z_By h b cap bs) : cap ≤ 286 := s.2.2.1
theorem z_By.c0 {h : q_H} {b : Nat} {cap : Nat} {bs : Nat → Int32} (s : z_By h b cap bs) : h.2 (b) = some (.inl (3, cap, .inl (bs))) := s.2.2.2
theorem z_By.keep {h1 : q_H} {b1 k1 : Nat} {h : q_H} {b : Nat} {cap : Nat} {bs : Nat → Int32} (s : z_By h b cap bs) (q : q_same h h1 b1 k1) (hx : b + 1 ≤ b1 ∨ b1 + k1 ≤ b) : z_By h1 b cap bs := by
  obtain ⟨w0, w1, w2, w3⟩ := s
  exact ⟨w0, Nat.le_trans w1 q.1, w2, (q.2 _ (by omega) (by omega)).trans w3⟩
theorem z_By.put0 {h : q_H} {b : Nat} {cap : Nat} {bs : Nat → Int32} (s : z_By h b cap bs) {bs' : Nat → Int32}   : z_By (q_set h (b) (.inl (3, cap, .inl (bs')))) b cap bs' := by
  obtain ⟨w0, w1, w2, w3⟩ := s
  exact ⟨w0, w1, w2, q_set_eq⟩
theorem q_selP {y : MethodName} (hy : y.cls ≠ "java/lang/invoke/MethodHandle" ∧ y.cls ≠ "java/lang/invoke/VarHandle") (hc : y.cls = RJ5) (hp : Cond.privateMethod y ∈ q_WS) (hi : Cond.instanceMethod y ∈ q_WS) (args : Array Value) (s : State) (hts : ∀ w ∈ q_WS, w.before args s = true) : (Cond.selects RJ4 y y).before args s = true := by
  have h0 : (Cond.selects RJ4 yJ5_isLatin1_aae02 yJ5_isLatin1_aae02).before args s = true := hts _ (q_mem 1169 (by decide +kernel) (by decide +kernel))
  obtain ⟨c, r, m, hfc, -, hnm, -, mk, hmk, hmi⟩ := Cond.selects_spec h0
  obtain ⟨mk2, methM, hnamed, hmethM, -, -⟩ := Cond.instanceMethod_spec (hts _ hi)
  have hfound : s.methodFound? y.cls y.name y.desc = some mk2 := State.methodFound?_of_named hnamed hy
  have h1 := findClass_of_methodNamed hnamed
  have h2 := findClass_of_methodNamed hnm
  rw [hc] at h1
  have hcls : mk2.cls = m.cls := Option.some.inj (h1.symm.trans h2)
  have hsel : selectMethod {} s.vm c mk2 = .method mk2 := selectMethod_private hmethM (Cond.privateMethod_at (hts _ hp) mk2 methM hnamed hmethM)
  simp only [Cond.before, Cond.holds, Cond.value, hfc, hfound, hnamed, hsel, hcls, hmk]
  simp
  exact hmi
theorem kS_J5_isLatin1_aae02 : Cond.selects RJ4 yJ5_isLatin1_aae02 yJ5_isLatin1_aae02 ∈ q_WS := q_mem 1169 (by decide +kernel) (by decide +kernel)
theorem kSP_ensure (args : Array Value) (s : State) (hts : ∀ w ∈ q_WS, w.before args s = true) : (Cond.selects RJ4 yJ5_ensureCapacityInternal_d00df yJ5_ensureCapacityInternal_d00df).before args s = true := q_selP ⟨by decide +kernel, by decide +kernel⟩ rfl (q_mem 1138 (by decide +kernel) (by decide +kernel)) kI_J5_ensureCapacityInternal_d00df args s hts
theorem kSP_newCap (args : Array Value) (s : State) (hts : ∀ w ∈ q_WS, w.before args s = true) : (Cond.selects RJ4 yJ5_newCapacity_0f7a4 yJ5_newCapacity_0f7a4).before args s = true := q_selP ⟨by decide +kernel, by decide +kernel⟩ rfl (q_mem 1142 (by decide +kernel) (by decide +kernel)) kI_J5_newCapacity_0f7a4 args s hts
section PSB
variable {g : q_G} {M : q_M} {d mc ms : Nat} {Q : q_O → q_H → Prop} {kc ks pc : Nat} {ls st : List Value} {h : q_H}
/-- a call of a private method of a superclass -/
theorem q_invVP {M' : q_M} {d' mc' ms' : Nat} {Q' : q_O → q_H → Prop} {as stk fs : List Value} {own C : String} {T : u_T} {N idx n i ci : Nat}
    (hd : decode M.2.1 pc = .ok (.invokevirtual idx, 3)) (hk : q_isM M' n) (hl : Cond.methodLink own idx M'.1 ∈ q_WS) (hin : Cond.instanceMethod M'.1 ∈ q_WS) (hse : ∀ (args : Array Value) (s : State), (∀ w ∈ q_WS, w.before args s = true) → (Cond.selects C M'.1 M'.1).before args s = true) (ho : M.1.cls = own) (hcl : vwCl[ci]? = some (C, T, N))
    (hc : h.2 i = some (.inr (ci, fs))) (hstk : stk = as.reverse ++ .ref i :: st) (hn : as.length = n) (h4 : st.length ≤ 4) (hdd : d' + 1 ≤ d) (hml : M'.2.2.1 ≤ 31) (hmc : kc + mc' ≤ mc) (hms : ks + ms' ≤ ms)
    (sp : q_Spec g M' d' mc' ms' (.ref i :: as) h Q')
    (kk : ∀ v h1, Q' (.inl v) h1 → q_W g M d mc ms Q (kc + mc') (ks + ms') (pc + 3) ls (v.toList ++ st) h1)
    (kx : ∀ E h1, Q' (.inr E) h1 → q_X g M d mc ms Q E (kc + mc') (ks + ms') pc ls st h1) : q_W g M d mc ms Q kc ks pc ls stk h := by
  intro p e s m args below meth c H locs mls X hR hS hL
  obtain ⟨i1, i2, i3⟩ := hR.2.2 i _ hc
  have hts := q_hWS X.2.2.2.2.1
  have hK := X.2.2.2.2.2.2.2.1
  have hown : s.vm.findClass own = some m.cls := by rw [← ho]; exact X.2.2.2.1
  have hpre := fun U hU hW => q_pre (as := .ref i :: as) hK hR hS U hU hW
  rw [List.map_cons, q_tV_ref i1] at hpre
  refine q_cont (vx_runV (C := C) (As := as.map (q_tV g)) (rest := st.map (q_tV g)) ⟨X.1, X.2.1, X.2.2.1, hown, hts⟩ sp ⟨q_cb hts hk hl hdd hml, hts _ hin, hse args s hts⟩ ⟨q_blind, va_recv (q0 := 0) (fs := fs.map (q_tV g)) hK.1 (q_P1 i3) hcl rfl, hpre⟩ rfl (by rw [List.length_map]; exact hn) hL.1 (q_args i1 hstk) (q_rest h4) hd ⟨hmc, hms⟩) hS ?_ ?_
  · intro v h1 H1 locs1 hq hR1 hS1
    rw [← q_toList]
    exact kk v h1 hq p e s m args below meth c H1 locs1 mls X hR1 hS1 hL
  · intro E h1 H1 locs1 q9 ce hq hR1 hS1 h9 hv hcl9
    exact kx E h1 hq p e s m args below meth c H1 locs1 mls q9 ce X hR1 hS1 hL h9 hv hcl9
/-- a letter of 7 bits -/
def z_lat (x : Int32) : Prop := ∃ c : Nat, c < 128 ∧ x = nI c
theorem z_latN {c : Nat} (h : c < 128) : z_lat (nI c) := ⟨c, h, rfl⟩
theorem z_lat_nar {x : Int32} (h : z_lat x) : vp_nar .byte x = x := by
  obtain ⟨c, hc, rfl⟩ := h
  rw [vp_nar_byte]
  have q : ∀ c, c < 128 → (nI c).toInt8.toInt32 = nI c := by decide +kernel
  exact q c hc
theorem z_lat_i2b {x : Int32} (h : z_lat x) : x.toInt8.toInt32 = x := by
  obtain ⟨c, hc, rfl⟩ := h
  have q : ∀ c, c < 128 → (nI c).toInt8.toInt32 = nI c := by decide +kernel
  exact q c hc
theorem z_lat_get {x : Int32} (h : z_lat x) : ((x &&& 255).toUInt32 % 65536).toInt32 = x := by
  obtain ⟨c, hc, rfl⟩ := h
  have q : ∀ c, c < 128 → ((nI c &&& 255).toUInt32 % 65536).toInt32 = nI c := by decide +kernel
  exact q c hc
theorem z_lat_char {x : Int32} (h : z_lat x) : narrow .char (.int x) = .int x := by
  obtain ⟨c, hc, rfl⟩ := h
  exact (pk_charN (by omega)).1
theorem z_latr {x : Int32} (h1 : ¬ x < 32) (h2 : x ≤ 126) : z_lat x := by
  obtain ⟨j, hj, rfl⟩ := nI_of2 (n := 126) (by decide) (fun q => h1 (by rw [Int32.lt_iff_toInt_lt] at q ⊢; have : (32 : Int32).toInt = 32 := by decide
                                                                       have : (0 : Int32).toInt = 0 := by decide
                                                                       omega)) h2
  exact ⟨j, by omega, rfl⟩
theorem q_bastN {i n j : Nat} {f : Nat → Int32} {x : Int32} (hx : z_lat x) (hd : decode M.2.1 pc = .ok (.bastore, 1)) (hc : h.2 i = some (.inl (3, n, .inl f))) (hj : j < n) (hn : n < 2 ^ 31) (kk : q_W g M d mc ms Q kc ks (pc + 1) ls st (q_set h i (.inl (3, n, .inl (upd f j x))))) : q_W g M d mc ms Q kc ks pc ls (.int x :: .int (nI j) :: .ref i :: st) h :=
  q_bast hd hc (vp_in_nI hj hn) (by
    rw [nI_clamp (Nat.lt_trans hj hn), z_lat_nar hx]
    exact kk)
theorem q_ishr0 {x : Int32} (hd : decode M.2.1 pc = .ok (.ishr, 1)) (kk : q_W g M d mc ms Q kc ks (pc + 1) ls (.int x :: st) h) : q_W g M d mc ms Q kc ks pc ls (.int 0 :: .int x :: st) h :=
  q_ishr hd (by rw [sb_shr0]; exact kk)
theorem q_ishl0 {x : Int32} (hd : decode M.2.1 pc = .ok (.ishl, 1)) (kk : q_W g M d mc ms Q kc ks (pc + 1) ls (.int x :: st) h) : q_W g M d mc ms Q kc ks pc ls (.int 0 :: .int x :: st) h :=
  q_ishl hd (by rw [sb_shl0]; exact kk)
/-- of the old cells none but b and v has changed -/
def q_two (h h1 : q_H) (b v : Nat) : Prop := h.1 ≤ h1.1 ∧ ∀ i, i < h.1 → i ≠ b → i ≠ v → h1.2 i = h.2 i
theorem q_two.rfl' {h : q_H} {b v : Nat} : q_two h h b v := ⟨Nat.le_refl _, fun _ _ _ _ => rfl⟩
theorem q_two.trans {h h1 h2 : q_H} {b v v1 : Nat} (p : q_two h h1 b v) (q : q_two h1 h2 b v1) (hv : v1 = v ∨ h.1 ≤ v1) : q_two h h2 b v := ⟨Nat.le_trans p.1 q.1, fun i hi hb hx => (q.2 i (Nat.lt_of_lt_of_le hi p.1) hb (by omega)).trans (p.2 i hi hb hx)⟩
theorem q_two.put {h h1 : q_H} {b v i : Nat} {c : (Nat × vp_A) ⊕ (Nat × List Value)} (p : q_two h h1 b v) (hi : i = b ∨ i = v ∨ h.1 ≤ i) : q_two h (q_set h1 i c) b v := ⟨p.1, fun j hj hb hx => by
  simp only [q_set]
  rw [if_neg (by omega)]
  exact p.2 j hj hb hx⟩
theorem z_Sb1.keep2 {h h1 : q_H} {b b1 v1 v cn : Nat} {ml : Int32} (s : z_Sb1 h b v ml cn) (q : q_two h h1 b1 v1) (h1' : b ≠ b1) (h2' : b ≠ v1) : z_Sb1 h1 b v ml cn := by
  obtain ⟨w0, w1, w2, w3⟩ := s
  exact ⟨w0, Nat.le_trans w1 q.1, w2, (q.2 _ (by omega) h1' h2').trans w3⟩
theorem z_By.keep2 {h h1 : q_H} {v b1 v1 cap : Nat} {bs : Nat → Int32} (s : z_By h v cap bs) (q : q_two h h1 b1 v1) (h1' : v ≠ b1) (h2' : v ≠ v1) : z_By h1 v cap bs := by
  obtain ⟨w0, w1, w2, w3⟩ := s
  exact ⟨w0, Nat.le_trans w1 q.1, w2, (q.2 _ (by omega) h1' h2').trans w3⟩
end PSB
def x_J5_length (cn : Nat) : Nat := cn
set_option maxRecDepth 100000 in
set_option maxHeartbeats 8000000 in
theorem e_J5_length {g : q_G} {h : q_H} {d : Nat} {b : Nat} {v : Nat} {ml : Int32} {cn : Nat} (ssb : z_Sb1 h b v ml cn)     (hd : 0 ≤ d) : q_Spec g mJ5_length_8abf5 d 0 0 [.ref (b)] h (q_ret ((some (.int (nI (x_J5_length cn))))) h) := by
  have hr_sb := ssb.r0
  have hb_sb_cn := ssb.bcn
  have ho_sb_cn := ssb.bcn
  refine q_enter (by decide +kernel) rfl rfl (Nat.le_of_ble_eq_true rfl) (fun hz => ?_)
  change q_W _ _ _ _ _ _ _ _ _ [.ref (b)] [] _
  refine q_aload_n (by first | assumption | omega | decide) dJ5_length_8abf5_0 rfl ?_
  refine q_getf (k := 3) (v := .int (nI (cn))) kC_J4 kL_J5_79 rfl (by decide) dJ5_length_8abf5_1 ssb.c0 rfl ?_
  have hE : x_J5_length cn = cn := by simp only [x_J5_length]
  rw [hE]
  exact q_ireturn dJ5_length_8abf5_4 rfl rfl (by omega) (by omega) ⟨rfl, rfl⟩
theorem e_sblen {g : q_G} {h : q_H} {d b v cn : Nat} {ml : Int32} (ssb : z_Sb1 h b v ml cn) (hd : 1 ≤ d) : q_Spec g mJ4_length_8abf5 d 0 0 [.ref b] h (q_ret (some (.int (nI cn))) h) := by
  have hr_sb := ssb.r0
  refine q_enter (by decide +kernel) rfl rfl (Nat.le_of_ble_eq_true rfl) (fun hz => ?_)
  change q_W _ _ _ _ _ _ _ _ _ [.ref b] [] _
  refine q_aload_n (by first | assumption | omega | decide) dJ4_length_8abf5_0 rfl ?_
  refine q_invSU (mc' := 0) (ms' := 0) (d' := d - 1) (as := []) dJ4_length_8abf5_1 kM_J5_length_8abf5 (by decide) kL_J4_343 kW_1284 kP_J4 kI_J5_length_8abf5 rfl (kC_J4.1) ssb.c0 rfl rfl (Nat.le_of_ble_eq_true rfl) (by omega) (by decide) (by omega) (by omega) (e_J5_length (d := d - 1) ssb (by omega)) (q_kR ?_) q_xR
  exact q_ireturn dJ4_length_8abf5_4 rfl rfl (by omega) (by omega) ⟨rfl, rfl⟩
def x_J5_isLatin1  : Bool := true
set_option maxRecDepth 100000 in
set_option maxHeartbeats 8000000 in
theorem e_J5_isLatin1 {g : q_G} {h : q_H} {d : Nat} {b : Nat} {v : Nat} {ml : Int32} {cn : Nat} (ssb : z_Sb1 h b v ml cn)     (hd : 0 ≤ d) : q_Spec g mJ5_isLatin1_aae02 d 0 0 [.ref (b)] h (q_ret ((some (.int (z_b x_J5_isLatin1)))) h) := by
  have hr_sb := ssb.r0
  have hb_sb_cn := ssb.bcn
  have ho_sb_cn := ssb.bcn
  refine q_enter (by decide +kernel) rfl rfl (Nat.le_of_ble_eq_true rfl) (fun hz => ?_)
  change q_W _ _ _ _ _ _ _ _ _ [.ref (b)] [] _
  refine q_getstatic (v := .int (1)) (by simp [q_zs]) kL_J5_18 rfl dJ5_isLatin1_aae02_0 ?_
  change q_W _ _ _ _ _ _ _ _ 3 [.ref (b)] [.int (1)] _
  refine q_if_eq 17 dJ5_isLatin1_aae02_3 (by decide) (fun b3 => ?_) (fun b3 => ?_)
  · exact absurd b3 (by decide)
  · refine q_aload_n (by first | assumption | omega | decide) dJ5_isLatin1_aae02_6 rfl ?_
    refine q_getf (k := 1) (v := .int (0)) kC_J4 kL_J5_22 rfl (by decide) dJ5_isLatin1_aae02_7 ssb.c0 rfl ?_
    refine q_if_ne 17 dJ5_isLatin1_aae02_10 (by decide) (fun b10 => ?_) (fun b10 => ?_)
    · exact absurd b10 (by decide)
    · refine q_iconst (v := 1) dJ5_isLatin1_aae02_13 rfl ?_
      refine q_goto 18 dJ5_isLatin1_aae02_14 (by decide) ?_
      have hE : x_J5_isLatin1  = true := by simp only [x_J5_isLatin1]
      rw [hE]
      exact q_ireturn dJ5_isLatin1_aae02_18 rfl rfl (by omega) (by omega) ⟨rfl, rfl⟩
theorem z_isLatin1 : x_J5_isLatin1 = true := rfl
theorem e_newLength {g : q_G} {h : q_H} {d cap mg pf : Nat} (h1 : mg ≤ pf) (h2 : pf + cap ≤ 1000) (h3 : 1 ≤ pf) (hd : 1 ≤ d) : q_Spec g mJ8_newLength_cabcc d 0 0 [.int (nI cap), .int (nI mg), .int (nI pf)] h (q_ret (some (.int (nI (cap + pf)))) h) := by
  refine q_enter (by decide +kernel) rfl rfl (Nat.le_of_ble_eq_true rfl) (fun hz => ?_)
  change q_W _ _ _ _ _ _ _ _ _ [.int (nI cap), .int (nI mg), .int (nI pf), q_u] [] _
  refine q_iload_n dJ8_newLength_cabcc_0 rfl ?_
  refine q_iload_n dJ8_newLength_cabcc_1 rfl ?_
  refine q_iload_n dJ8_newLength_cabcc_2 rfl ?_
  refine q_mmax kL_J8_194 kT_J9_max_7cf53 (kM_J9_max_7cf53.2.2.2.1) rfl dJ8_newLength_cabcc_3 (Nat.le_of_ble_eq_true rfl) (by omega) (by omega) (by omega) ?_
  rw [z_nite (by omega) (by omega), show (if mg < pf then pf else mg) = pf by split <;> omega]
  refine q_iaddN (a := cap) (b := pf) dJ8_newLength_cabcc_6 ?_
  refine q_istore_n dJ8_newLength_cabcc_7 (by decide) rfl ?_
  change q_W _ _ _ _ _ _ _ _ _ [.int (nI cap), .int (nI mg), .int (nI pf), .int (nI (cap + pf))] [] _
  refine q_iconst (v := 0) dJ8_newLength_cabcc_8 rfl ?_
  refine q_iload_n dJ8_newLength_cabcc_9 rfl ?_
  refine q_icmp_ge 21 dJ8_newLength_cabcc_10 (by decide) (fun b => absurd ((nI_leI (a := cap + pf) (b := 0) (by omega) (by omega)).mp b) (by omega)) (fun b => ?_)
  refine q_iload_n dJ8_newLength_cabcc_13 rfl ?_
  refine q_ldc kL_J8_200 rfl dJ8_newLength_cabcc_14 ?_
  refine q_icmp_gt 21 dJ8_newLength_cabcc_16 (by decide) (fun b => absurd ((nI_ltI (a := 2147483639) (b := cap + pf) (by omega) (by omega)).mp b) (by omega)) (fun b => ?_)
  refine q_iload_n dJ8_newLength_cabcc_19 rfl ?_
  exact q_ireturn dJ8_newLength_cabcc_20 rfl rfl (by omega) (by omega) ⟨rfl, rfl⟩
theorem e_newCap {g : q_G} {h : q_H} {d b v cn cap q : Nat} {ml : Int32} {bs : Nat → Int32} (ssb : z_Sb1 h b v ml cn) (sby : z_By h v cap bs) (hq : cap ≤ q) (hq2 : q ≤ 2 * cap + 2) (hc : cap ≤ 286) (hd : 2 ≤ d) : q_Spec g mJ5_newCapacity_0f7a4 d 0 0 [.ref b, .int (nI q)] h (q_ret (some (.int (nI (cap + (cap + 2))))) h) := by
  have hr_sb := ssb.r0
  have hr_by := sby.r0
  refine q_enter (by decide +kernel) rfl rfl (Nat.le_of_ble_eq_true rfl) (fun hz => ?_)
  change q_W _ _ _ _ _ _ _ _ _ [.ref b, .int (nI q), q_u, q_u, q_u, q_u] [] _
  refine q_aload_n (by first | assumption | omega | decide) dJ5_newCapacity_0f7a4_0 rfl ?_
  refine q_getf (k := 0) (v := .ref v) kC_J4 kL_J5_15 rfl (by decide) dJ5_newCapacity_0f7a4_1 ssb.c0 rfl ?_
  refine q_alenI rfl dJ5_newCapacity_0f7a4_4 sby.c0 ?_
  change q_W _ _ _ _ _ _ _ _ _ _ [.int (nI cap)] _
  refine q_istore_n dJ5_newCapacity_0f7a4_5 (by decide) rfl ?_
  change q_W _ _ _ _ _ _ _ _ _ [.ref b, .int (nI q), .int (nI cap), q_u, q_u, q_u] [] _
  refine q_iload_n dJ5_newCapacity_0f7a4_6 rfl ?_
  refine q_aload_n (by first | assumption | omega | decide) dJ5_newCapacity_0f7a4_7 rfl ?_
  refine q_getf (k := 1) (v := .int 0) kC_J4 kL_J5_22 rfl (by decide) dJ5_newCapacity_0f7a4_8 ssb.c0 rfl ?_
  refine q_ishl0 dJ5_newCapacity_0f7a4_11 ?_
  refine q_istore_n dJ5_newCapacity_0f7a4_12 (by decide) rfl ?_
  change q_W _ _ _ _ _ _ _ _ _ [.ref b, .int (nI q), .int (nI cap), .int (nI q), q_u, q_u] [] _
  refine q_iload_n dJ5_newCapacity_0f7a4_13 rfl ?_
  refine q_iload_n dJ5_newCapacity_0f7a4_14 rfl ?_
  refine q_isubN (a := q) (b := cap) (by omega) dJ5_newCapacity_0f7a4_15 ?_
  refine q_istore dJ5_newCapacity_0f7a4_16 (by decide) rfl ?_
  change q_W _ _ _ _ _ _ _ _ _ [.ref b, .int (nI q), .int (nI cap), .int (nI q), .int (nI (q - cap)), q_u] [] _
  refine q_iload_n dJ5_newCapacity_0f7a4_18 rfl ?_
  refine q_iload dJ5_newCapacity_0f7a4_19 rfl ?_
  refine q_iload_n dJ5_newCapacity_0f7a4_21 rfl ?_
  refine q_iconst (v := 2) dJ5_newCapacity_0f7a4_22 rfl ?_
  refine q_aload_n (by first | assumption | omega | decide) dJ5_newCapacity_0f7a4_23 rfl ?_
  refine q_getf (k := 1) (v := .int 0) kC_J4 kL_J5_22 rfl (by decide) dJ5_newCapacity_0f7a4_24 ssb.c0 rfl ?_
  refine q_ishl0 dJ5_newCapacity_0f7a4_27 ?_
  refine q_iaddN (a := cap) (b := 2) dJ5_newCapacity_0f7a4_28 ?_
  refine q_invS (mc' := 0) (ms' := 0) (d' := d - 1) (as := [.int (nI cap), .int (nI (q - cap)), .int (nI (cap + 2))]) dJ5_newCapacity_0f7a4_29 kM_J8_newLength_cabcc kL_J5_114 kT_J8_newLength_cabcc rfl rfl rfl (Nat.le_of_ble_eq_true rfl) (by omega) (by decide) (by omega) (by omega) (e_newLength (d := d - 1) (by omega) (by omega) (by omega) (by omega)) (q_kR ?_) q_xR
  change q_W _ _ _ _ _ _ _ _ 32 [.ref b, .int (nI q), .int (nI cap), .int (nI q), .int (nI (q - cap)), q_u] [.int (nI (cap + (cap + 2)))] _
  refine q_istore dJ5_newCapacity_0f7a4_32 (by decide) rfl ?_
  change q_W _ _ _ _ _ _ _ _ _ [.ref b, .int (nI q), .int (nI cap), .int (nI q), .int (nI (q - cap)), .int (nI (cap + (cap + 2)))] [] _
  refine q_iload dJ5_newCapacity_0f7a4_34 rfl ?_
  refine q_ldc kL_J5_39 rfl dJ5_newCapacity_0f7a4_36 ?_
  refine q_icmp_ne 51 dJ5_newCapacity_0f7a4_38 (by decide) (fun b => ?_) (fun b => absurd ((nI_eq (a := cap + (cap + 2)) (b := 2147483647) (by omega) (by omega)).mp (Classical.not_not.mp b)) (by omega))
  refine q_iload dJ5_newCapacity_0f7a4_51 rfl ?_
  refine q_aload_n (by first | assumption | omega | decide) dJ5_newCapacity_0f7a4_53 rfl ?_
  refine q_getf (k := 1) (v := .int 0) kC_J4 kL_J5_22 rfl (by decide) dJ5_newCapacity_0f7a4_54 ssb.c0 rfl ?_
  refine q_ishr0 dJ5_newCapacity_0f7a4_57 ?_
  exact q_ireturn dJ5_newCapacity_0f7a4_58 rfl rfl (by omega) (by omega) ⟨rfl, rfl⟩
theorem e_copyOfB {g : q_G} {h : q_H} {d v cap q : Nat} {bs : Nat → Int32} (sby : z_By h v cap bs) (hl : ∀ j, j < cap → vp_nar .byte (bs j) = bs j) (hq : cap < q) (hq2 : q ≤ 286) (hd : 2 ≤ d) : q_Spec g mJ7_copyOf_9075b d 1 286 [.ref v, .int (nI q)] h (q_chg (.inl (some (.ref h.1))) (fun h1 => z_By h1 h.1 q (va_cpy bs (fun _ => 0) 0 0 cap) ∧ h1.1 = h.1 + 1 ∧ ∀ i, i < h.1 → h1.2 i = h.2 i)) := by
  have hr_by := sby.r0
  have hs_by := sby.s0
  have hc_by := sby.c0
  refine q_enter (by decide +kernel) rfl rfl (Nat.le_of_ble_eq_true rfl) (fun hz => ?_)
  change q_W _ _ _ _ _ _ _ _ _ [.ref v, .int (nI q), q_u] [] _
  refine q_iload_n dJ7_copyOf_9075b_0 rfl ?_
  refine q_aload_n (by first | assumption | omega | decide) dJ7_copyOf_9075b_1 rfl ?_
  refine q_alenI rfl dJ7_copyOf_9075b_2 sby.c0 ?_
  change q_W _ _ _ _ _ _ _ _ _ _ [.int (nI cap), .int (nI q)] _
  refine q_icmp_ne 14 dJ7_copyOf_9075b_3 (by decide) (fun b => ?_) (fun b => absurd ((nI_eq (a := q) (b := cap) (by omega) (by omega)).mp (Classical.not_not.mp b)) (by omega))
  refine q_iload_n dJ7_copyOf_9075b_14 rfl ?_
  refine q_newaB (N := q) kA_byte dJ7_copyOf_9075b_15 (nI_pos (by omega)) (nI_clamp (by omega)) (by show q * 1 ≤ 536870912; omega) (by omega) (by omega) (fun hz1 => ?_)
  refine q_astore_n (by first | assumption | omega | decide) dJ7_copyOf_9075b_17 (by decide) rfl ?_
  change q_W _ _ _ _ _ _ _ _ _ [.ref v, .int (nI q), .ref h.1] [] _
  refine q_aload_n (by first | assumption | omega | decide) dJ7_copyOf_9075b_18 rfl ?_
  refine q_iconst (v := 0) dJ7_copyOf_9075b_19 rfl ?_
  refine q_aload_n (by first | assumption | omega | decide) dJ7_copyOf_9075b_20 rfl ?_
  refine q_iconst (v := 0) dJ7_copyOf_9075b_21 rfl ?_
  refine q_aload_n (by first | assumption | omega | decide) dJ7_copyOf_9075b_22 rfl ?_
  have hc2 : (q_push h (.inl (3, q, .inl (fun _ => 0)))).2 v = some (.inl (3, cap, .inl bs)) := by
    simp only [q_push]
    rw [if_neg (by omega)]
    exact hc_by
  refine q_alenI rfl dJ7_copyOf_9075b_23 hc2 ?_
  change q_W _ _ _ _ _ _ _ _ _ _ [.int (nI cap), .int 0, .ref h.1, .int 0, .ref v] _
  refine q_iload_n dJ7_copyOf_9075b_24 rfl ?_
  refine q_mmin kL_J7_304 kT_J9_min_7cf53 (kM_J9_min_7cf53.2.2.2.1) rfl dJ7_copyOf_9075b_25 (Nat.le_of_ble_eq_true rfl) (by omega) (by omega) (by omega) ?_
  rw [z_nite (by omega) (by omega), show (if q < cap then q else cap) = cap by split <;> omega]
  refine q_copy (t := 3) (sp := 0) (dp := 0) (n := nI cap) kL_J7_150 kO_3 kO_4 kJ_J10 rfl rfl rfl hc2 (show (q_push h (.inl (3, q, .inl (fun _ => 0)))).2 h.1 = some (.inl (3, q, .inl (fun _ => 0))) by simp [q_push]) (by decide) (by decide) (nI_pos (by omega)) (by rw [nI_clamp (by omega)]; show 0 + cap ≤ cap; omega) (by rw [nI_clamp (by omega)]; show 0 + cap ≤ q; omega) (fun k hk => ?_) (Nat.le_of_ble_eq_true rfl) (by omega) dJ7_copyOf_9075b_28 ?_
  · rw [nI_clamp (by omega)] at hk
    have := hl (0 + k) (by omega)
    show fits .byte (.int (bs (0 + k))) = true
    rw [← this, vp_nar_byte]
    exact pk_fb _
  rw [nI_clamp (by omega)]
  refine q_aload_n (by first | assumption | omega | decide) dJ7_copyOf_9075b_31 rfl ?_
  refine q_areturn (by first | assumption | omega | decide) dJ7_copyOf_9075b_32 rfl (Or.inr ⟨_, rfl⟩) (by omega) (by omega) ⟨rfl, ⟨hz, ?_, hq2, ?_⟩, rfl, fun i hi => ?_⟩
  · exact Nat.le_refl _
  · simp only [q_set]
    exact if_pos rfl
  · simp only [q_set, q_push]
    rw [if_neg (by omega), if_neg (by omega)]
theorem e_ensure {g : q_G} {h : q_H} {d b v cn cap q : Nat} {ml : Int32} {bs : Nat → Int32} (ssb : z_Sb1 h b v ml cn) (sby : z_By h v cap bs) (hl : ∀ j, j < cap → vp_nar .byte (bs j) = bs j) (hbv : b ≠ v) (h16 : 16 ≤ cap) (hq : q ≤ 142) (hq2 : q ≤ cap + 10) (hd : 4 ≤ d) : q_Spec g mJ5_ensureCapacityInternal_d00df d 1 286 [.ref b, .int (nI q)] h
    (q_chg (.inl none) (fun h1 => ∃ (v' cap' : Nat) (bs' : Nat → Int32), z_Sb1 h1 b v' ml cn ∧ z_By h1 v' cap' bs' ∧ (v' = v ∨ h.1 ≤ v') ∧ b ≠ v' ∧ q ≤ cap' ∧ cap ≤ cap' ∧ (∀ j, j < cap → bs' j = bs j) ∧ (∀ j, j < cap' → vp_nar .byte (bs' j) = bs' j) ∧ q_two h h1 b v)) := by
  have hr_sb := ssb.r0
  have hr_by := sby.r0
  have hs_sb := ssb.s0
  have hs_by := sby.s0
  have hb_cap := sby.bcap
  refine q_enter (by decide +kernel) rfl rfl (Nat.le_of_ble_eq_true rfl) (fun hz => ?_)
  change q_W _ _ _ _ _ _ _ _ _ [.ref b, .int (nI q), q_u] [] _
  refine q_aload_n (by first | assumption | omega | decide) dJ5_ensureCapacityInternal_d00df_0 rfl ?_
  refine q_getf (k := 0) (v := .ref v) kC_J4 kL_J5_15 rfl (by decide) dJ5_ensureCapacityInternal_d00df_1 ssb.c0 rfl ?_
  refine q_alenI rfl dJ5_ensureCapacityInternal_d00df_4 sby.c0 ?_
  change q_W _ _ _ _ _ _ _ _ _ _ [.int (nI cap)] _
  refine q_aload_n (by first | assumption | omega | decide) dJ5_ensureCapacityInternal_d00df_5 rfl ?_
  refine q_getf (k := 1) (v := .int 0) kC_J4 kL_J5_22 rfl (by decide) dJ5_ensureCapacityInternal_d00df_6 ssb.c0 rfl ?_
  refine q_ishr0 dJ5_ensureCapacityInternal_d00df_9 ?_
  refine q_istore_n dJ5_ensureCapacityInternal_d00df_10 (by decide) rfl ?_
  change q_W _ _ _ _ _ _ _ _ _ [.ref b, .int (nI q), .int (nI cap)] [] _
  refine q_iload_n dJ5_ensureCapacityInternal_d00df_11 rfl ?_
  refine q_iload_n dJ5_ensureCapacityInternal_d00df_12 rfl ?_
  refine q_isub dJ5_ensureCapacityInternal_d00df_13 ?_
  have e1 : (nI q - nI cap).toInt = (q : Int) - cap := pk_sub_toInt (by omega) (by omega)
  have e0 : (0 : Int32).toInt = 0 := by decide
  refine q_if_le 38 dJ5_ensureCapacityInternal_d00df_14 (by decide) (fun c9 => ?_) (fun c9 => ?_)
  · rw [Int32.le_iff_toInt_le, e1, e0] at c9
    exact q_return dJ5_ensureCapacityInternal_d00df_38 rfl (by omega) (by omega) ⟨rfl, v, cap, bs, ssb, sby, Or.inl rfl, hbv, by omega, Nat.le_refl _, fun _ _ => rfl, hl, q_two.rfl'⟩
  · rw [Int32.le_iff_toInt_le, e1, e0] at c9
    refine q_aload_n (by first | assumption | omega | decide) dJ5_ensureCapacityInternal_d00df_17 rfl ?_
    refine q_aload_n (by first | assumption | omega | decide) dJ5_ensureCapacityInternal_d00df_18 rfl ?_
    refine q_getf (k := 0) (v := .ref v) kC_J4 kL_J5_15 rfl (by decide) dJ5_ensureCapacityInternal_d00df_19 ssb.c0 rfl ?_
    refine q_aload_n (by first | assumption | omega | decide) dJ5_ensureCapacityInternal_d00df_22 rfl ?_
    refine q_iload_n dJ5_ensureCapacityInternal_d00df_23 rfl ?_
    refine q_invVP (mc' := 0) (ms' := 0) (d' := d - 1) (as := [.int (nI q)]) dJ5_ensureCapacityInternal_d00df_24 kM_J5_newCapacity_0f7a4 kL_J5_104 kI_J5_newCapacity_0f7a4 kSP_newCap rfl (kC_J4.1) ssb.c0 rfl rfl (Nat.le_of_ble_eq_true rfl) (by omega) (by decide) (by omega) (by omega) (e_newCap (d := d - 1) ssb sby (by omega) (by omega) (by omega) (by omega)) (q_kR ?_) q_xR
    change q_W _ _ _ _ _ _ _ _ 27 [.ref b, .int (nI q), .int (nI cap)] [.int (nI (cap + (cap + 2))), .ref v, .ref b] _
    refine q_aload_n (by first | assumption | omega | decide) dJ5_ensureCapacityInternal_d00df_27 rfl ?_
    refine q_getf (k := 1) (v := .int 0) kC_J4 kL_J5_22 rfl (by decide) dJ5_ensureCapacityInternal_d00df_28 ssb.c0 rfl ?_
    refine q_ishl0 dJ5_ensureCapacityInternal_d00df_31 ?_
    refine q_invS (mc' := 1) (ms' := 286) (d' := d - 1) (as := [.ref v, .int (nI (cap + (cap + 2)))]) dJ5_ensureCapacityInternal_d00df_32 kM_J7_copyOf_9075b kL_J5_108 kT_J7_copyOf_9075b rfl rfl rfl (Nat.le_of_ble_eq_true rfl) (by omega) (by decide) (by omega) (by omega) (e_copyOfB (d := d - 1) sby hl (by omega) (by omega) (by omega)) (q_kC (fun h1 hB => ?_)) q_xC
    obtain ⟨sy, hn1, ho⟩ := hB
    change q_W _ _ _ _ _ _ _ _ 35 [.ref b, .int (nI q), .int (nI cap)] [.ref h.1, .ref b] _
    have hcb : h1.2 b = some (.inr (1, [.ref v, .int 0, .int ml, .int (nI cn)])) := (ho b (by omega)).trans ssb.c0
    refine q_putf (k := 0) kC_J4 kL_J5_15 rfl (by decide) rfl dJ5_ensureCapacityInternal_d00df_35 hcb (Nat.le_of_ble_eq_true rfl) ⟨rfl, rfl⟩ rfl ?_
    refine q_return dJ5_ensureCapacityInternal_d00df_38 rfl (by omega) (by omega) ⟨rfl, h.1, cap + (cap + 2), _, ⟨hr_sb, ?_, ssb.bcn, q_set_eq⟩, sy.keep (q_same.set (a := b) (k := 1) (Nat.le_refl _) (by omega)) (by omega), Or.inr (Nat.le_refl _), by omega, by omega, by omega, fun j hj => ?_, fun j hj => ?_, ?_, fun i hi hb hv => ?_⟩
    · show b + 1 ≤ h1.1
      omega
    · rw [pk_cpy_in (by omega) (by omega)]
      congr 1
      omega
    · by_cases hj2 : j < cap
      · rw [pk_cpy_in (by omega) (by omega)]
        exact hl _ (by omega)
      · rw [pk_cpy_out (by omega)]
        exact z_lat_nar (z_latN (c := 0) (by omega))
    · show h.1 ≤ h1.1
      omega
    · simp only [q_set]
      rw [if_neg hb]
      exact ho i hi