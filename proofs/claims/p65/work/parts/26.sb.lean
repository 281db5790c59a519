def z_Sb1 (h : q_H) (b : Nat) (v : Nat) (ml : Int32) (cn : Nat) : Prop :=
  q_R0 ≤ b ∧
  b + 1 ≤ h.1 ∧
  cn ≤ 286 ∧
  h.2 (b) = some (.inr (1, [.ref (v), .int (0), .int (ml), .int (nI (cn))]))
theorem z_Sb1.r0 {h : q_H} {b : Nat} {v : Nat} {ml : Int32} {cn : Nat} (s : z_Sb1 h b v ml cn) : q_R0 ≤ b := s.1
theorem z_Sb1.s0 {h : q_H} {b : Nat} {v : Nat} {ml : Int32} {cn : Nat} (s : z_Sb1 h b v ml cn) : b + 1 ≤ h.1 := s.2.1
theorem z_Sb1.bcn {h : q_H} {b : Nat} {v : Nat} {ml : Int32} {cn : Nat} (s : z_Sb1 h b v ml cn) : cn ≤ 286 := s.2.2.1
theorem z_Sb1.c0 {h : q_H} {b : Nat} {v : Nat} {ml : Int32} {cn : Nat} (s : z_Sb1 h b v ml cn) : h.2 (b) = some (.inr (1, [.ref (v), .int (0), .int (ml), .int (nI (cn))])) := s.2.2.2
theorem z_Sb1.keep {h1 : q_H} {b1 k1 : Nat} {h : q_H} {b : Nat} {v : Nat} {ml : Int32} {cn : Nat} (s : z_Sb1 h b v ml cn) (q : q_same h h1 b1 k1) (hx : b + 1 ≤ b1 ∨ b1 + k1 ≤ b) : z_Sb1 h1 b v ml cn := by
  obtain ⟨w0, w1, w2, w3⟩ := s
  exact ⟨w0, Nat.le_trans w1 q.1, w2, (q.2 _ (by omega) (by omega)).trans w3⟩
theorem z_Sb1.put0 {h : q_H} {b : Nat} {v : Nat} {ml : Int32} {cn : Nat} (s : z_Sb1 h b v ml cn) {v' : Nat} {ml' : Int32} {cn' : Nat} (hbcn : cn' ≤ 286)  : z_Sb1 (q_set h (b) (.inr (1, [.ref (v'), .int (0), .int (ml'), .int (nI (cn'))]))) b v' ml' cn' := by
  obtain ⟨w0, w1, w2, w3⟩ := s
  exact ⟨w0, w1, hbcn, q_set_eq⟩
def z_By (h : q_H) (b : Nat) (cap : Nat) (bs : Nat → Int32) : Prop :=
  q_R0 ≤ b ∧
  b + 1 ≤ h.1 ∧
  cap ≤ 286 ∧
  h.2 (b) = some (.inl (3, cap, .inl (bs)))
theorem z_By.r0 {h : q_H} {b : Nat} {cap : Nat} {bs : Nat → Int32} (s : z_By h b cap bs) : q_R0 ≤ b := s.1
theorem z_By.s0 {h : q_H} {b : Nat} {cap : Nat} {bs : Nat → Int32} (s : z_By h b cap bs) : b + 1 ≤ h.1 := s.2.1
theorem z_By.bcap {h : q_H} {b : Nat} {cap : Nat} {bs : Nat → Int32} (s : z_By h b cap bs) : cap ≤ 286 := s.2.2.1
theorem z_By.c0 {h : q_H} {b : Nat} {cap : Nat} {bs : Nat → Int32} (s : z_By h b cap bs) : h.2 (b) = some (.inl (3, cap, .inl (bs))) := s.2.2.2
theorem z_By.keep {h1 : q_H} {b1 k1 : Nat} {h : q_H} {b : Nat} {cap : Nat} {bs : Nat → Int32} (s : z_By h b cap bs) (q : q_same h h1 b1 k1) (hx : b + 1 ≤ b1 ∨ b1 + k1 ≤ b) : z_By h1 b cap bs := by
  obtain ⟨w0, w1, w2, w3⟩ := s
  exact ⟨w0, Nat.le_trans w1 q.1, w2, (q.2 _ (by omega) (by omega)).trans w3⟩
theorem z_By.put0 {h : q_H} {b : Nat} {cap : Nat} {bs : Nat → Int32} (s : z_By h b cap bs) {bs' : Nat → Int32}   : z_By (q_set h (b) (.inl (3, cap, .inl (bs')))) b cap bs' := by
  obtain ⟨w0, w1, w2, w3⟩ := s
  exact ⟨w0, w1, w2, q_set_eq⟩
section PSB
variable {g : q_G} {M : q_M} {d mc ms : Nat} {Q : q_O → q_H → Prop} {kc ks pc : Nat} {ls st : List Value} {h : q_H}
/-- a letter of 7 bits -/
def z_lat (x : Int32) : Prop := ∃ c : Nat, c < 128 ∧ x = nI c
theorem z_latN {c : Nat} (h : c < 128) : z_lat (nI c) := ⟨c, h, rfl⟩
theorem z_lat_nar {x : Int32} (h : z_lat x) : vp_nar .byte x = x := by
  obtain ⟨c, hc, rfl⟩ := h
  rw [vp_nar_byte]
  have q : ∀ c, c < 128 → (nI c).toInt8.toInt32 = nI c := by decide +kernel
  exact q c hc
theorem z_lat_i2b {x : Int32} (h : z_lat x) : x.toInt8.toInt32 = x := by
  obtain ⟨c, hc, rfl⟩ := h
  have q : ∀ c, c < 128 → (nI c).toInt8.toInt32 = nI c := by decide +kernel
  exact q c hc
theorem z_lat_get {x : Int32} (h : z_lat x) : ((x &&& 255).toUInt32 % 65536).toInt32 = x := by
  obtain ⟨c, hc, rfl⟩ := h
  have q : ∀ c, c < 128 → ((nI c &&& 255).toUInt32 % 65536).toInt32 = nI c := by decide +kernel
  exact q c hc
theorem z_lat_char {x : Int32} (h : z_lat x) : narrow .char (.int x) = .int x := by
  obtain ⟨c, hc, rfl⟩ := h
  exact (pk_charN (by omega)).1
theorem z_latr {x : Int32} (h1 : ¬ x < 32) (h2 : x ≤ 126) : z_lat x := by
  have e1 : (32 : Int32).toInt = 32 := by decide
  have e0 : (0 : Int32).toInt = 0 := by decide
  have e2 : (126 : Int32).toInt = ((126 : Nat) : Int) := by decide
  obtain ⟨j, hj, rfl⟩ := nI_of2 (x := x) (M := 126) (n := 126) e2 (fun q => h1 (by
    rw [Int32.lt_iff_toInt_lt] at q ⊢
    omega)) h2
  exact ⟨j, by omega, rfl⟩
theorem q_bastN {i n j : Nat} {f : Nat → Int32} {x : Int32} (hx : z_lat x) (hd : decode M.2.1 pc = .ok (.bastore, 1)) (hc : h.2 i = some (.inl (3, n, .inl f))) (hj : j < n) (hn : n < 2 ^ 31) (kk : q_W g M d mc ms Q kc ks (pc + 1) ls st (q_set h i (.inl (3, n, .inl (upd f j x))))) : q_W g M d mc ms Q kc ks pc ls (.int x :: .int (nI j) :: .ref i :: st) h :=
  q_bast hd hc (vp_in_nI hj hn) (by
    rw [nI_clamp (Nat.lt_trans hj hn), z_lat_nar hx]
    exact kk)
theorem q_ishr0 {x : Int32} (hd : decode M.2.1 pc = .ok (.ishr, 1)) (kk : q_W g M d mc ms Q kc ks (pc + 1) ls (.int x :: st) h) : q_W g M d mc ms Q kc ks pc ls (.int 0 :: .int x :: st) h :=
  q_ishr hd (by rw [sb_shr0]; exact kk)
theorem q_ishl0 {x : Int32} (hd : decode M.2.1 pc = .ok (.ishl, 1)) (kk : q_W g M d mc ms Q kc ks (pc + 1) ls (.int x :: st) h) : q_W g M d mc ms Q kc ks pc ls (.int 0 :: .int x :: st) h :=
  q_ishl hd (by rw [sb_shl0]; exact kk)
/-- of the old cells none but b and v has changed -/
def q_two (h h1 : q_H) (b v : Nat) : Prop := h.1 ≤ h1.1 ∧ ∀ i, i < h.1 → i ≠ b → i ≠ v → h1.2 i = h.2 i
theorem q_two.rfl' {h : q_H} {b v : Nat} : q_two h h b v := ⟨Nat.le_refl _, fun _ _ _ _ => rfl⟩
theorem q_two.trans {h h1 h2 : q_H} {b v v1 : Nat} (p : q_two h h1 b v) (q : q_two h1 h2 b v1) (hv : v1 = v ∨ h.1 ≤ v1) : q_two h h2 b v := ⟨Nat.le_trans p.1 q.1, fun i hi hb hx => (q.2 i (Nat.lt_of_lt_of_le hi p.1) hb (by omega)).trans (p.2 i hi hb hx)⟩
theorem q_two.put {h h1 : q_H} {b v i : Nat} {c : (Nat × vp_A) ⊕ (Nat × List Value)} (p : q_two h h1 b v) (hi : i = b ∨ i = v ∨ h.1 ≤ i) : q_two h (q_set h1 i c) b v := ⟨p.1, fun j hj hb hx => by
  simp only [q_set]
  rw [if_neg (by omega)]
  exact p.2 j hj hb hx⟩
theorem z_Sb1.keep2 {h h1 : q_H} {b b1 v1 v cn : Nat} {ml : Int32} (s : z_Sb1 h b v ml cn) (q : q_two h h1 b1 v1) (h1' : b ≠ b1) (h2' : b ≠ v1) : z_Sb1 h1 b v ml cn := by
  obtain ⟨w0, w1, w2, w3⟩ := s
  exact ⟨w0, Nat.le_trans w1 q.1, w2, (q.2 _ (by omega) h1' h2').trans w3⟩
theorem z_By.keep2 {h h1 : q_H} {v b1 v1 cap : Nat} {bs : Nat → Int32} (s : z_By h v cap bs) (q : q_two h h1 b1 v1) (h1' : v ≠ b1) (h2' : v ≠ v1) : z_By h1 v cap bs := by
  obtain ⟨w0, w1, w2, w3⟩ := s
  exact ⟨w0, Nat.le_trans w1 q.1, w2, (q.2 _ (by omega) h1' h2').trans w3⟩
end PSB
def x_J5_length (cn : Nat) : Nat := cn
set_option maxRecDepth 100000 in
set_option maxHeartbeats 8000000 in
theorem e_J5_length {g : q_G} {h : q_H} {d : Nat} {b : Nat} {v : Nat} {ml : Int32} {cn : Nat} (ssb : z_Sb1 h b v ml cn)     (hd : 0 ≤ d) : q_Spec g mJ5_length_8abf5 d 0 0 [.ref (b)] h (q_ret ((some (.int (nI (x_J5_length cn))))) h) := by
  have hr_sb := ssb.r0
  have hb_sb_cn := ssb.bcn
  have ho_sb_cn := ssb.bcn
  refine q_enter (by decide +kernel) rfl rfl (Nat.le_of_ble_eq_true rfl) (fun hz => ?_)
  change q_W _ _ _ _ _ _ _ _ _ [.ref (b)] [] _
  refine q_aload_n (by first | assumption | omega | decide) dJ5_length_8abf5_0 rfl ?_
  refine q_getf (k := 3) (v := .int (nI (cn))) kC_J4 kL_J5_79 rfl (by decide) dJ5_length_8abf5_1 ssb.c0 rfl ?_
  have hE : x_J5_length cn = cn := by simp only [x_J5_length]
  rw [hE]
  exact q_ireturn dJ5_length_8abf5_4 rfl rfl (by omega) (by omega) ⟨rfl, rfl⟩
theorem e_sblen {g : q_G} {h : q_H} {d b v cn : Nat} {ml : Int32} (ssb : z_Sb1 h b v ml cn) (hd : 1 ≤ d) : q_Spec g mJ4_length_8abf5 d 0 0 [.ref b] h (q_ret (some (.int (nI cn))) h) := by
  have hr_sb := ssb.r0
  refine q_enter (by decide +kernel) rfl rfl (Nat.le_of_ble_eq_true rfl) (fun hz => ?_)
  change q_W _ _ _ _ _ _ _ _ _ [.ref b] [] _
  refine q_aload_n (by first | assumption | omega | decide) dJ4_length_8abf5_0 rfl ?_
  refine q_invSU (mc' := 0) (ms' := 0) (d' := d - 1) (as := []) dJ4_length_8abf5_1 kM_J5_length_8abf5 (by decide) kL_J4_343 kW_835 kP_J4 kI_J5_length_8abf5 rfl (kC_J4.1) ssb.c0 rfl rfl (Nat.le_of_ble_eq_true rfl) (by omega) (by decide) (by omega) (by omega) (e_J5_length (d := d - 1) ssb (by omega)) (q_kR ?_) q_xR
  exact q_ireturn dJ4_length_8abf5_4 rfl rfl (by omega) (by omega) ⟨rfl, rfl⟩
def x_J5_isLatin1  : Bool := true
set_option maxRecDepth 100000 in
set_option maxHeartbeats 8000000 in
theorem e_J5_isLatin1 {g : q_G} {h : q_H} {d : Nat} {b : Nat} {v : Nat} {ml : Int32} {cn : Nat} (ssb : z_Sb1 h b v ml cn)     (hd : 0 ≤ d) : q_Spec g mJ5_isLatin1_aae02 d 0 0 [.ref (b)] h (q_ret ((some (.int (z_b x_J5_isLatin1)))) h) := by
  have hr_sb := ssb.r0
  have hb_sb_cn := ssb.bcn
  have ho_sb_cn := ssb.bcn
  refine q_enter (by decide +kernel) rfl rfl (Nat.le_of_ble_eq_true rfl) (fun hz => ?_)
  change q_W _ _ _ _ _ _ _ _ _ [.ref (b)] [] _
  refine q_getstatic (v := .int (1)) (by simp [q_zs]) kL_J5_18 rfl dJ5_isLatin1_aae02_0 ?_
  change q_W _ _ _ _ _ _ _ _ 3 [.ref (b)] [.int (1)] _
  refine q_if_eq 17 dJ5_isLatin1_aae02_3 (by decide) (fun b3 => ?_) (fun b3 => ?_)
  · exact absurd b3 (by decide)
  · refine q_aload_n (by first | assumption | omega | decide) dJ5_isLatin1_aae02_6 rfl ?_
    refine q_getf (k := 1) (v := .int (0)) kC_J4 kL_J5_22 rfl (by decide) dJ5_isLatin1_aae02_7 ssb.c0 rfl ?_
    refine q_if_ne 17 dJ5_isLatin1_aae02_10 (by decide) (fun b10 => ?_) (fun b10 => ?_)
    · exact absurd (by decide) b10
    · refine q_iconst (v := 1) dJ5_isLatin1_aae02_13 rfl ?_
      refine q_goto 18 dJ5_isLatin1_aae02_14 (by decide) ?_
      have hE : x_J5_isLatin1  = true := by simp only [x_J5_isLatin1]
      rw [hE]
      exact q_ireturn dJ5_isLatin1_aae02_18 rfl rfl (by omega) (by omega) ⟨rfl, rfl⟩
theorem z_isLatin1 : x_J5_isLatin1 = true := rfl
theorem e_newLength {g : q_G} {h : q_H} {d cap mg pf : Nat} (h1 : mg ≤ pf) (h2 : pf + cap ≤ 1000) (h3 : 1 ≤ pf) (hd : 1 ≤ d) : q_Spec g mJ8_newLength_cabcc d 0 0 [.int (nI cap), .int (nI mg), .int (nI pf)] h (q_ret (some (.int (nI (cap + pf)))) h) := by
  refine q_enter (by decide +kernel) rfl rfl (Nat.le_of_ble_eq_true rfl) (fun hz => ?_)
  change q_W _ _ _ _ _ _ _ _ _ [.int (nI cap), .int (nI mg), .int (nI pf), q_u] [] _
  refine q_iload_n dJ8_newLength_cabcc_0 rfl ?_
  refine q_iload_n dJ8_newLength_cabcc_1 rfl ?_
  refine q_iload_n dJ8_newLength_cabcc_2 rfl ?_
  refine q_mmax kL_J8_194 kT_J9_max_7cf53 (kM_J9_max_7cf53.2.2.2.1) rfl dJ8_newLength_cabcc_3 (Nat.le_of_ble_eq_true rfl) (by omega) (by omega) (by omega) ?_
  rw [z_nite (by omega) (by omega), show (if mg < pf then pf else mg) = pf by split <;> omega]
  refine q_iaddN (a := cap) (b := pf) dJ8_newLength_cabcc_6 ?_
  refine q_istore_n dJ8_newLength_cabcc_7 (by decide) rfl ?_
  change q_W _ _ _ _ _ _ _ _ _ [.int (nI cap), .int (nI mg), .int (nI pf), .int (nI (cap + pf))] [] _
  refine q_iconst (v := 0) dJ8_newLength_cabcc_8 rfl ?_
  refine q_iload_n dJ8_newLength_cabcc_9 rfl ?_
  refine q_icmp_ge 21 dJ8_newLength_cabcc_10 (by decide) (fun b => absurd ((nI_leI (a := cap + pf) (b := 0) (by omega) (by omega)).mp b) (by omega)) (fun b => ?_)
  refine q_iload_n dJ8_newLength_cabcc_13 rfl ?_
  refine q_ldc kL_J8_200 rfl dJ8_newLength_cabcc_14 ?_
  refine q_icmp_gt 21 dJ8_newLength_cabcc_16 (by decide) (fun b => absurd ((nI_ltI (a := 2147483639) (b := cap + pf) (by omega) (by omega)).mp b) (by omega)) (fun b => ?_)
  refine q_iload_n dJ8_newLength_cabcc_19 rfl ?_
  exact q_ireturn dJ8_newLength_cabcc_20 rfl rfl (by omega) (by omega) ⟨rfl, rfl⟩
theorem e_newCap {g : q_G} {h : q_H} {d b v cn cap q : Nat} {ml : Int32} {bs : Nat → Int32} (ssb : z_Sb1 h b v ml cn) (sby : z_By h v cap bs) (hq : cap ≤ q) (hq2 : q ≤ 2 * cap + 2) (hc : cap ≤ 286) (hd : 2 ≤ d) : q_Spec g mJ5_newCapacity_0f7a4 d 0 0 [.ref b, .int (nI q)] h (q_ret (some (.int (nI (cap + (cap + 2))))) h) := by
  have hr_sb := ssb.r0
  have hr_by := sby.r0
  refine q_enter (by decide +kernel) rfl rfl (Nat.le_of_ble_eq_true rfl) (fun hz => ?_)
  change q_W _ _ _ _ _ _ _ _ _ [.ref b, .int (nI q), q_u, q_u, q_u, q_u] [] _
  refine q_aload_n (by first | assumption | omega | decide) dJ5_newCapacity_0f7a4_0 rfl ?_
  refine q_getf (k := 0) (v := .ref v) kC_J4 kL_J5_15 rfl (by decide) dJ5_newCapacity_0f7a4_1 ssb.c0 rfl ?_
  refine q_alenI rfl dJ5_newCapacity_0f7a4_4 sby.c0 ?_
  change q_W _ _ _ _ _ _ _ _ _ _ [.int (nI cap)] _
  refine q_istore_n dJ5_newCapacity_0f7a4_5 (by decide) rfl ?_
  change q_W _ _ _ _ _ _ _ _ _ [.ref b, .int (nI q), .int (nI cap), q_u, q_u, q_u] [] _
  refine q_iload_n dJ5_newCapacity_0f7a4_6 rfl ?_
  refine q_aload_n (by first | assumption | omega | decide) dJ5_newCapacity_0f7a4_7 rfl ?_
  refine q_getf (k := 1) (v := .int 0) kC_J4 kL_J5_22 rfl (by decide) dJ5_newCapacity_0f7a4_8 ssb.c0 rfl ?_
  refine q_ishl0 dJ5_newCapacity_0f7a4_11 ?_
  refine q_istore_n dJ5_newCapacity_0f7a4_12 (by decide) rfl ?_
  change q_W _ _ _ _ _ _ _ _ _ [.ref b, .int (nI q), .int (nI cap), .int (nI q), q_u, q_u] [] _
  refine q_iload_n dJ5_newCapacity_0f7a4_13 rfl ?_
  refine q_iload_n dJ5_newCapacity_0f7a4_14 rfl ?_
  refine q_isubN (a := q) (b := cap) (by omega) dJ5_newCapacity_0f7a4_15 ?_
  refine q_istore dJ5_newCapacity_0f7a4_16 (by decide) rfl ?_
  change q_W _ _ _ _ _ _ _ _ _ [.ref b, .int (nI q), .int (nI cap), .int (nI q), .int (nI (q - cap)), q_u] [] _
  refine q_iload_n dJ5_newCapacity_0f7a4_18 rfl ?_
  refine q_iload dJ5_newCapacity_0f7a4_19 rfl ?_
  refine q_iload_n dJ5_newCapacity_0f7a4_21 rfl ?_
  refine q_iconst (v := 2) dJ5_newCapacity_0f7a4_22 rfl ?_
  refine q_aload_n (by first | assumption | omega | decide) dJ5_newCapacity_0f7a4_23 rfl ?_
  refine q_getf (k := 1) (v := .int 0) kC_J4 kL_J5_22 rfl (by decide) dJ5_newCapacity_0f7a4_24 ssb.c0 rfl ?_
  refine q_ishl0 dJ5_newCapacity_0f7a4_27 ?_
  refine q_iaddN (a := cap) (b := 2) dJ5_newCapacity_0f7a4_28 ?_
  refine q_invS (mc' := 0) (ms' := 0) (d' := d - 1) (as := [.int (nI cap), .int (nI (q - cap)), .int (nI (cap + 2))]) dJ5_newCapacity_0f7a4_29 kM_J8_newLength_cabcc kL_J5_114 kT_J8_newLength_cabcc rfl rfl rfl (Nat.le_of_ble_eq_true rfl) (by omega) (by decide) (by omega) (by omega) (e_newLength (d := d - 1) (by omega) (by omega) (by omega) (by omega)) (q_kR ?_) q_xR
  change q_W _ _ _ _ _ _ _ _ 32 [.ref b, .int (nI q), .int (nI cap), .int (nI q), .int (nI (q - cap)), q_u] [.int (nI (cap + (cap + 2)))] _
  refine q_istore dJ5_newCapacity_0f7a4_32 (by decide) rfl ?_
  change q_W _ _ _ _ _ _ _ _ _ [.ref b, .int (nI q), .int (nI cap), .int (nI q), .int (nI (q - cap)), .int (nI (cap + (cap + 2)))] [] _
  refine q_iload dJ5_newCapacity_0f7a4_34 rfl ?_
  refine q_ldc kL_J5_39 rfl dJ5_newCapacity_0f7a4_36 ?_
  refine q_icmp_ne 51 dJ5_newCapacity_0f7a4_38 (by decide) (fun b => ?_) (fun b => absurd ((nI_eq (a := cap + (cap + 2)) (b := 2147483647) (by omega) (by omega)).mp b) (by omega))
  refine q_iload dJ5_newCapacity_0f7a4_51 rfl ?_
  refine q_aload_n (by first | assumption | omega | decide) dJ5_newCapacity_0f7a4_53 rfl ?_
  refine q_getf (k := 1) (v := .int 0) kC_J4 kL_J5_22 rfl (by decide) dJ5_newCapacity_0f7a4_54 ssb.c0 rfl ?_
  refine q_ishr0 dJ5_newCapacity_0f7a4_57 ?_
  exact q_ireturn dJ5_newCapacity_0f7a4_58 rfl rfl (by omega) (by omega) ⟨rfl, rfl⟩
theorem e_copyOfB {g : q_G} {h : q_H} {d v cap q : Nat} {bs : Nat → Int32} (sby : z_By h v cap bs) (hl : ∀ j, j < cap → vp_nar .byte (bs j) = bs j) (hq : cap < q) (hq2 : q ≤ 286) (hd : 2 ≤ d) : q_Spec g mJ7_copyOf_9075b d 1 286 [.ref v, .int (nI q)] h (q_chg (.inl (some (.ref h.1))) (fun h1 => z_By h1 h.1 q (va_cpy bs (fun _ => 0) 0 0 cap) ∧ h1.1 = h.1 + 1 ∧ ∀ i, i < h.1 → h1.2 i = h.2 i)) := by
  have hr_by := sby.r0
  have hs_by := sby.s0
  have hc_by := sby.c0
  refine q_enter (by decide +kernel) rfl rfl (Nat.le_of_ble_eq_true rfl) (fun hz => ?_)
  change q_W _ _ _ _ _ _ _ _ _ [.ref v, .int (nI q), q_u] [] _
  refine q_iload_n dJ7_copyOf_9075b_0 rfl ?_
  refine q_aload_n (by first | assumption | omega | decide) dJ7_copyOf_9075b_1 rfl ?_
  refine q_alenI rfl dJ7_copyOf_9075b_2 sby.c0 ?_
  change q_W _ _ _ _ _ _ _ _ _ _ [.int (nI cap), .int (nI q)] _
  refine q_icmp_ne 14 dJ7_copyOf_9075b_3 (by decide) (fun b => ?_) (fun b => absurd ((nI_eq (a := q) (b := cap) (by omega) (by omega)).mp b) (by omega))
  refine q_iload_n dJ7_copyOf_9075b_14 rfl ?_
  refine q_newaB (N := q) kA_byte dJ7_copyOf_9075b_15 (nI_pos (by omega)) (nI_clamp (by omega)) (by show q * 1 ≤ 536870912; omega) (by omega) (by omega) (fun hz1 => ?_)
  refine q_astore_n (by first | assumption | omega | decide) dJ7_copyOf_9075b_17 (by decide) rfl ?_
  change q_W _ _ _ _ _ _ _ _ _ [.ref v, .int (nI q), .ref h.1] [] _
  refine q_aload_n (by first | assumption | omega | decide) dJ7_copyOf_9075b_18 rfl ?_
  refine q_iconst (v := 0) dJ7_copyOf_9075b_19 rfl ?_
  refine q_aload_n (by first | assumption | omega | decide) dJ7_copyOf_9075b_20 rfl ?_
  refine q_iconst (v := 0) dJ7_copyOf_9075b_21 rfl ?_
  refine q_aload_n (by first | assumption | omega | decide) dJ7_copyOf_9075b_22 rfl ?_
  have hc2 : (q_push h (.inl (3, q, .inl (fun _ => 0)))).2 v = some (.inl (3, cap, .inl bs)) := by
    simp only [q_push]
    rw [if_neg (by omega)]
    exact hc_by
  refine q_alenI rfl dJ7_copyOf_9075b_23 hc2 ?_
  change q_W _ _ _ _ _ _ _ _ _ _ [.int (nI cap), .int 0, .ref h.1, .int 0, .ref v] _
  refine q_iload_n dJ7_copyOf_9075b_24 rfl ?_
  refine q_mmin kL_J7_304 kT_J9_min_7cf53 (kM_J9_min_7cf53.2.2.2.1) rfl dJ7_copyOf_9075b_25 (Nat.le_of_ble_eq_true rfl) (by omega) (by omega) (by omega) ?_
  rw [z_nite (by omega) (by omega), show (if q < cap then q else cap) = cap by split <;> omega]
  refine q_copy (t := 3) (sp := 0) (dp := 0) (n := nI cap) kL_J7_150 kO_3 kO_4 kJ_J10 rfl rfl rfl hc2 (show (q_push h (.inl (3, q, .inl (fun _ => 0)))).2 h.1 = some (.inl (3, q, .inl (fun _ => 0))) by simp [q_push]) (by decide) (by decide) (nI_pos (by omega)) (by rw [nI_clamp (by omega)]; show 0 + cap ≤ cap; omega) (by rw [nI_clamp (by omega)]; show 0 + cap ≤ q; omega) (fun k hk => ?_) (Nat.le_of_ble_eq_true rfl) (by omega) dJ7_copyOf_9075b_28 ?_
  · rw [nI_clamp (by omega)] at hk
    have := hl (0 + k) (by omega)
    show fits .byte (.int (bs (0 + k))) = true
    rw [← this, vp_nar_byte]
    exact pk_fb _
  rw [nI_clamp (by omega)]
  refine q_aload_n (by first | assumption | omega | decide) dJ7_copyOf_9075b_31 rfl ?_
  refine q_areturn (by first | assumption | omega | decide) dJ7_copyOf_9075b_32 rfl (Or.inr ⟨_, rfl⟩) (by omega) (by omega) ⟨rfl, ⟨hz, ?_, hq2, ?_⟩, rfl, fun i hi => ?_⟩
  · exact Nat.le_refl _
  · exact q_set_eq
  · simp only [q_set, q_push]
    rw [if_neg (by omega), if_neg (by omega)]
theorem e_ensure0 {g : q_G} {h : q_H} {d b v cn cap : Nat} {ml : Int32} {bs : Nat → Int32} (ssb : z_Sb1 h b v ml cn) (sby : z_By h v cap bs) (hd : 4 ≤ d) : q_Spec g mJ5_ensureCapacityInternal_d00df d 1 286 [.ref b, .int (nI 0)] h (q_ret none h) := by
  have hr_sb := ssb.r0
  have hr_by := sby.r0
  have hs_sb := ssb.s0
  have hs_by := sby.s0
  have hb_cap := sby.bcap
  refine q_enter (by decide +kernel) rfl rfl (Nat.le_of_ble_eq_true rfl) (fun hz => ?_)
  change q_W _ _ _ _ _ _ _ _ _ [.ref b, .int (nI 0), q_u] [] _
  refine q_aload_n (by first | assumption | omega | decide) dJ5_ensureCapacityInternal_d00df_0 rfl ?_
  refine q_getf (k := 0) (v := .ref v) kC_J4 kL_J5_15 rfl (by decide) dJ5_ensureCapacityInternal_d00df_1 ssb.c0 rfl ?_
  refine q_alenI rfl dJ5_ensureCapacityInternal_d00df_4 sby.c0 ?_
  change q_W _ _ _ _ _ _ _ _ _ _ [.int (nI cap)] _
  refine q_aload_n (by first | assumption | omega | decide) dJ5_ensureCapacityInternal_d00df_5 rfl ?_
  refine q_getf (k := 1) (v := .int 0) kC_J4 kL_J5_22 rfl (by decide) dJ5_ensureCapacityInternal_d00df_6 ssb.c0 rfl ?_
  refine q_ishr0 dJ5_ensureCapacityInternal_d00df_9 ?_
  refine q_istore_n dJ5_ensureCapacityInternal_d00df_10 (by decide) rfl ?_
  change q_W _ _ _ _ _ _ _ _ _ [.ref b, .int (nI 0), .int (nI cap)] [] _
  refine q_iload_n dJ5_ensureCapacityInternal_d00df_11 rfl ?_
  refine q_iload_n dJ5_ensureCapacityInternal_d00df_12 rfl ?_
  refine q_isub dJ5_ensureCapacityInternal_d00df_13 ?_
  have e1 : (nI 0 - nI cap).toInt = ((0 : Nat) : Int) - cap := pk_sub_toInt (by omega) (by omega)
  have e0 : (0 : Int32).toInt = 0 := by decide
  refine q_if_le 38 dJ5_ensureCapacityInternal_d00df_14 (by decide) (fun c9 => ?_) (fun c9 => ?_)
  · exact q_return dJ5_ensureCapacityInternal_d00df_38 rfl (by omega) (by omega) ⟨rfl, rfl⟩
  · rw [Int32.le_iff_toInt_le, e1, e0] at c9
    omega
theorem e_ensure {g : q_G} {h : q_H} {d b v cn cap q : Nat} {ml : Int32} {bs : Nat → Int32} (ssb : z_Sb1 h b v ml cn) (sby : z_By h v cap bs) (hl : ∀ j, j < cap → vp_nar .byte (bs j) = bs j) (hbv : b ≠ v) (h16 : 16 ≤ cap) (hq : q ≤ 142) (hq2 : q ≤ cap + 10) (hd : 4 ≤ d) : q_Spec g mJ5_ensureCapacityInternal_d00df d 1 286 [.ref b, .int (nI q)] h
    (q_chg (.inl none) (fun h1 => ∃ (v' cap' : Nat) (bs' : Nat → Int32), z_Sb1 h1 b v' ml cn ∧ z_By h1 v' cap' bs' ∧ (v' = v ∨ h.1 ≤ v') ∧ b ≠ v' ∧ q ≤ cap' ∧ cap ≤ cap' ∧ (∀ j, j < cap → bs' j = bs j) ∧ (∀ j, j < cap' → vp_nar .byte (bs' j) = bs' j) ∧ q_two h h1 b v)) := by
  have hr_sb := ssb.r0
  have hr_by := sby.r0
  have hs_sb := ssb.s0
  have hs_by := sby.s0
  have hb_cap := sby.bcap
  refine q_enter (by decide +kernel) rfl rfl (Nat.le_of_ble_eq_true rfl) (fun hz => ?_)
  change q_W _ _ _ _ _ _ _ _ _ [.ref b, .int (nI q), q_u] [] _
  refine q_aload_n (by first | assumption | omega | decide) dJ5_ensureCapacityInternal_d00df_0 rfl ?_
  refine q_getf (k := 0) (v := .ref v) kC_J4 kL_J5_15 rfl (by decide) dJ5_ensureCapacityInternal_d00df_1 ssb.c0 rfl ?_
  refine q_alenI rfl dJ5_ensureCapacityInternal_d00df_4 sby.c0 ?_
  change q_W _ _ _ _ _ _ _ _ _ _ [.int (nI cap)] _
  refine q_aload_n (by first | assumption | omega | decide) dJ5_ensureCapacityInternal_d00df_5 rfl ?_
  refine q_getf (k := 1) (v := .int 0) kC_J4 kL_J5_22 rfl (by decide) dJ5_ensureCapacityInternal_d00df_6 ssb.c0 rfl ?_
  refine q_ishr0 dJ5_ensureCapacityInternal_d00df_9 ?_
  refine q_istore_n dJ5_ensureCapacityInternal_d00df_10 (by decide) rfl ?_
  change q_W _ _ _ _ _ _ _ _ _ [.ref b, .int (nI q), .int (nI cap)] [] _
  refine q_iload_n dJ5_ensureCapacityInternal_d00df_11 rfl ?_
  refine q_iload_n dJ5_ensureCapacityInternal_d00df_12 rfl ?_
  refine q_isub dJ5_ensureCapacityInternal_d00df_13 ?_
  have e1 : (nI q - nI cap).toInt = (q : Int) - cap := pk_sub_toInt (by omega) (by omega)
  have e0 : (0 : Int32).toInt = 0 := by decide
  refine q_if_le 38 dJ5_ensureCapacityInternal_d00df_14 (by decide) (fun c9 => ?_) (fun c9 => ?_)
  · rw [Int32.le_iff_toInt_le, e1, e0] at c9
    exact q_return dJ5_ensureCapacityInternal_d00df_38 rfl (by omega) (by omega) ⟨rfl, v, cap, bs, ssb, sby, Or.inl rfl, hbv, by omega, Nat.le_refl _, fun _ _ => rfl, hl, q_two.rfl'⟩
  · rw [Int32.le_iff_toInt_le, e1, e0] at c9
    refine q_aload_n (by first | assumption | omega | decide) dJ5_ensureCapacityInternal_d00df_17 rfl ?_
    refine q_aload_n (by first | assumption | omega | decide) dJ5_ensureCapacityInternal_d00df_18 rfl ?_
    refine q_getf (k := 0) (v := .ref v) kC_J4 kL_J5_15 rfl (by decide) dJ5_ensureCapacityInternal_d00df_19 ssb.c0 rfl ?_
    refine q_aload_n (by first | assumption | omega | decide) dJ5_ensureCapacityInternal_d00df_22 rfl ?_
    refine q_iload_n dJ5_ensureCapacityInternal_d00df_23 rfl ?_
    refine q_invV (mc' := 0) (ms' := 0) (d' := d - 1) (as := [.int (nI q)]) dJ5_ensureCapacityInternal_d00df_24 kM_J5_newCapacity_0f7a4 kL_J5_104 kI_J5_newCapacity_0f7a4 kS_J5_newCapacity_0f7a4 rfl (kC_J4.1) ssb.c0 rfl rfl (Nat.le_of_ble_eq_true rfl) (by omega) (by decide) (by omega) (by omega) (e_newCap (d := d - 1) ssb sby (by omega) (by omega) (by omega) (by omega)) (q_kR ?_) q_xR
    change q_W _ _ _ _ _ _ _ _ 27 [.ref b, .int (nI q), .int (nI cap)] [.int (nI (cap + (cap + 2))), .ref v, .ref b] _
    refine q_aload_n (by first | assumption | omega | decide) dJ5_ensureCapacityInternal_d00df_27 rfl ?_
    refine q_getf (k := 1) (v := .int 0) kC_J4 kL_J5_22 rfl (by decide) dJ5_ensureCapacityInternal_d00df_28 ssb.c0 rfl ?_
    refine q_ishl0 dJ5_ensureCapacityInternal_d00df_31 ?_
    refine q_invS (mc' := 1) (ms' := 286) (d' := d - 1) (as := [.ref v, .int (nI (cap + (cap + 2)))]) dJ5_ensureCapacityInternal_d00df_32 kM_J7_copyOf_9075b kL_J5_108 kT_J7_copyOf_9075b rfl rfl rfl (Nat.le_of_ble_eq_true rfl) (by omega) (by decide) (by omega) (by omega) (e_copyOfB (d := d - 1) sby hl (by omega) (by omega) (by omega)) (q_kC (fun h1 hB => ?_)) q_xC
    obtain ⟨sy, hn1, ho⟩ := hB
    change q_W _ _ _ _ _ _ _ _ 35 [.ref b, .int (nI q), .int (nI cap)] [.ref h.1, .ref b] _
    have hcb : h1.2 b = some (.inr (1, [.ref v, .int 0, .int ml, .int (nI cn)])) := (ho b (by omega)).trans ssb.c0
    refine q_putf (k := 0) kC_J4 kL_J5_15 rfl (by decide) rfl dJ5_ensureCapacityInternal_d00df_35 hcb (Nat.le_of_ble_eq_true rfl) ⟨rfl, rfl⟩ rfl ?_
    refine q_return dJ5_ensureCapacityInternal_d00df_38 rfl (by omega) (by omega) ⟨rfl, h.1, cap + (cap + 2), _, ⟨hr_sb, ?_, ssb.bcn, q_set_eq⟩, sy.keep (q_same.set (a := b) (k := 1) (Nat.le_refl _) (by omega)) (by omega), Or.inr (Nat.le_refl _), by omega, by omega, by omega, fun j hj => ?_, fun j hj => ?_, ?_, fun i hi hb hv => ?_⟩
    · show b + 1 ≤ h1.1
      omega
    · rw [pk_cpy_in (by omega) (by omega)]
      congr 1
      omega
    · by_cases hj2 : j < cap
      · rw [pk_cpy_in (by omega) (by omega)]
        exact hl _ (by omega)
      · rw [pk_cpy_out (by omega)]
        exact z_lat_nar (z_latN (c := 0) (by omega))
    · show h.1 ≤ h1.1
      omega
    · simp only [q_set]
      rw [if_neg hb]
      exact ho i hi
theorem e_canEncode {g : q_G} {h : q_H} {d c : Nat} (hc : c < 128) (hd : 0 ≤ d) : q_Spec g mJ1_canEncode_fc78d d 0 0 [.int (nI c)] h (q_ret (some (.int 1)) h) := by
  refine q_enter (by decide +kernel) rfl rfl (Nat.le_of_ble_eq_true rfl) (fun hz => ?_)
  change q_W _ _ _ _ _ _ _ _ _ [.int (nI c)] [] _
  refine q_iload_n dJ1_canEncode_fc78d_0 rfl ?_
  refine q_sipush (v := 255) dJ1_canEncode_fc78d_1 rfl ?_
  refine q_icmp_gt 11 dJ1_canEncode_fc78d_4 (by decide) (fun b => absurd ((nI_ltI (a := 255) (b := c) (by omega) (by omega)).mp b) (by omega)) (fun b => ?_)
  refine q_iconst (v := 1) dJ1_canEncode_fc78d_7 rfl ?_
  refine q_goto 12 dJ1_canEncode_fc78d_8 (by decide) ?_
  exact q_ireturn dJ1_canEncode_fc78d_12 rfl rfl (by omega) (by omega) ⟨rfl, rfl⟩
/-- a StringBuilder at b whose letters are the first cn of f, its bytes at v -/
def z_Sb (h : q_H) (b cn : Nat) (f : Nat → Int32) (v : Nat) : Prop :=
  ∃ (ml : Int32) (cap : Nat) (bs : Nat → Int32), z_Sb1 h b v ml cn ∧ z_By h v cap bs ∧ b ≠ v ∧ 16 ≤ cap ∧ cn ≤ cap ∧ (∀ j, j < cap → vp_nar .byte (bs j) = bs j) ∧ ∀ j, j < cn → z_lat (f j) ∧ bs j = f j
theorem e_sbLen {g : q_G} {h : q_H} {d b cn v : Nat} {f : Nat → Int32} (s : z_Sb h b cn f v) (hd : 1 ≤ d) : q_Spec g mJ4_length_8abf5 d 0 0 [.ref b] h (q_ret (some (.int (nI cn))) h) := by
  obtain ⟨ml, cap, bs, s1, -⟩ := s
  exact e_sblen s1 hd
theorem e_appC5 {g : q_G} {h : q_H} {d b cn v : Nat} {f : Nat → Int32} (s : z_Sb h b cn f v) {x : Int32} (hx : z_lat x) (hcn : cn + 1 ≤ 142) (hd : 5 ≤ d) : q_Spec g mJ5_append_3fe6f d 1 286 [.ref b, .int x] h
    (q_chg (.inl (some (.ref b))) (fun h1 => ∃ v', z_Sb h1 b (cn + 1) (upd f cn x) v' ∧ (v' = v ∨ h.1 ≤ v') ∧ q_two h h1 b v)) := by
  obtain ⟨ml, cap, bs, s1, s2, hbv, h16, hcc, hnar, hf⟩ := s
  obtain ⟨c, hc, rfl⟩ := hx
  have hr_sb := s1.r0
  refine q_enter (by decide +kernel) rfl rfl (Nat.le_of_ble_eq_true rfl) (fun hz => ?_)
  change q_W _ _ _ _ _ _ _ _ _ [.ref b, .int (nI c)] [] _
  refine q_aload_n (by first | assumption | omega | decide) dJ5_append_3fe6f_0 rfl ?_
  refine q_aload_n (by first | assumption | omega | decide) dJ5_append_3fe6f_1 rfl ?_
  refine q_getf (k := 3) (v := .int (nI cn)) kC_J4 kL_J5_79 rfl (by decide) dJ5_append_3fe6f_2 s1.c0 rfl ?_
  refine q_iconst (v := 1) dJ5_append_3fe6f_5 rfl ?_
  refine q_iaddN (a := cn) (b := 1) dJ5_append_3fe6f_6 ?_
  refine q_invV (mc' := 1) (ms' := 286) (d' := d - 1) (as := [.int (nI (cn + 1))]) dJ5_append_3fe6f_7 kM_J5_ensureCapacityInternal_d00df kL_J5_100 kI_J5_ensureCapacityInternal_d00df kS_J5_ensureCapacityInternal_d00df rfl (kC_J4.1) s1.c0 rfl rfl (Nat.le_of_ble_eq_true rfl) (by omega) (by decide) (by omega) (by omega) (e_ensure (d := d - 1) s1 s2 hnar hbv h16 hcn (by omega) (by omega)) (q_kC (fun h1 hB => ?_)) q_xC
  obtain ⟨v', cap', bs', t1, t2, hv', hbv', hq', hcap', hpre, hnar', pp⟩ := hB
  have hr_by := t2.r0
  have hb_by := t2.bcap
  change q_W _ _ _ _ _ _ _ _ 10 [.ref b, .int (nI c)] [] _
  refine q_aload_n (by first | assumption | omega | decide) dJ5_append_3fe6f_10 rfl ?_
  refine q_invV (mc' := 0) (ms' := 0) (d' := d - 1) (as := []) dJ5_append_3fe6f_11 kM_J5_isLatin1_aae02 kL_J5_83 kI_J5_isLatin1_aae02 kS_J5_isLatin1_aae02 rfl (kC_J4.1) t1.c0 rfl rfl (Nat.le_of_ble_eq_true rfl) (by omega) (by decide) (by omega) (by omega) (e_J5_isLatin1 (d := d - 1) t1 (by omega)) (q_kR ?_) q_xR
  refine q_if_eq 45 dJ5_append_3fe6f_14 (by decide) (fun b9 => absurd b9 (by decide)) (fun b9 => ?_)
  refine q_iload_n dJ5_append_3fe6f_17 rfl ?_
  refine q_invS (mc' := 0) (ms' := 0) (d' := d - 1) (as := [.int (nI c)]) dJ5_append_3fe6f_18 kM_J1_canEncode_fc78d kL_J5_191 kT_J1_canEncode_fc78d rfl rfl rfl (Nat.le_of_ble_eq_true rfl) (by omega) (by decide) (by omega) (by omega) (e_canEncode (d := d - 1) hc (by omega)) (q_kR ?_) q_xR
  refine q_if_eq 45 dJ5_append_3fe6f_21 (by decide) (fun b9 => absurd b9 (by decide)) (fun b9 => ?_)
  change q_W _ _ _ _ _ _ _ _ 24 [.ref b, .int (nI c)] [] _
  refine q_aload_n (by first | assumption | omega | decide) dJ5_append_3fe6f_24 rfl ?_
  refine q_getf (k := 0) (v := .ref v') kC_J4 kL_J5_15 rfl (by decide) dJ5_append_3fe6f_25 t1.c0 rfl ?_
  refine q_aload_n (by first | assumption | omega | decide) dJ5_append_3fe6f_28 rfl ?_
  refine q_dup dJ5_append_3fe6f_29 rfl ?_
  refine q_getf (k := 3) (v := .int (nI cn)) kC_J4 kL_J5_79 rfl (by decide) dJ5_append_3fe6f_30 t1.c0 rfl ?_
  refine q_dup_x1 dJ5_append_3fe6f_33 rfl rfl ?_
  refine q_iconst (v := 1) dJ5_append_3fe6f_34 rfl ?_
  refine q_iaddN (a := cn) (b := 1) dJ5_append_3fe6f_35 ?_
  refine q_putf (k := 3) kC_J4 kL_J5_79 rfl (by decide) rfl dJ5_append_3fe6f_36 t1.c0 (Nat.le_of_ble_eq_true rfl) ⟨rfl, rfl⟩ rfl ?_
  refine z_genW (B := fun H => z_Sb1 H b v' ml (cn + 1) ∧ z_By H v' cap' bs' ∧ q_two h H b v) ⟨z_Sb1.put0 t1 (hbcn := by omega), t2.keep (q_same.set (a := b) (k := 1) (Nat.le_refl _) (by omega)) (by omega), pp.put (by omega)⟩ (fun h2 hB => ?_)
  obtain ⟨u1, u2, p2⟩ := hB
  refine q_iload_n dJ5_append_3fe6f_39 rfl ?_
  refine q_i2b (v := nI c) dJ5_append_3fe6f_40 (z_lat_i2b (z_latN hc)) ?_
  refine q_bastN (j := cn) (z_latN hc) dJ5_append_3fe6f_41 u2.c0 (by omega) (by omega) ?_
  refine z_genW (B := fun H => z_Sb1 H b v' ml (cn + 1) ∧ z_By H v' cap' (upd bs' cn (nI c)) ∧ q_two h H b v) ⟨u1.keep (q_same.set (a := v') (k := 1) (Nat.le_refl _) (by omega)) (by omega), z_By.put0 u2, p2.put (by omega)⟩ (fun h3 hB => ?_)
  obtain ⟨w1, w2, p3⟩ := hB
  refine q_goto 75 dJ5_append_3fe6f_42 (by decide) ?_
  refine q_aload_n (by first | assumption | omega | decide) dJ5_append_3fe6f_75 rfl ?_
  refine q_areturn (by first | assumption | omega | decide) dJ5_append_3fe6f_76 rfl (Or.inl ⟨_, rfl⟩) (by omega) (by omega) ⟨rfl, v', ⟨ml, cap', _, w1, w2, hbv', by omega, by omega, fun j hj => ?_, fun j hj => ?_⟩, hv', p3⟩
  · by_cases e : j = cn
    · subst e
      rw [pk_us]
      exact z_lat_nar (z_latN hc)
    · rw [pk_un e]
      exact hnar' j hj
  · by_cases e : j = cn
    · subst e
      rw [pk_us, pk_us]
      exact ⟨z_latN hc, rfl⟩
    · rw [pk_un e, pk_un e]
      obtain ⟨q1, q2⟩ := hf j (by omega)
      exact ⟨q1, (hpre j (by omega)).trans q2⟩
theorem e_appC {g : q_G} {h : q_H} {d b cn v : Nat} {f : Nat → Int32} (s : z_Sb h b cn f v) {x : Int32} (hx : z_lat x) (hcn : cn + 1 ≤ 142) (hd : 6 ≤ d) : q_Spec g mJ4_append_cf468 d 1 286 [.ref b, .int x] h
    (q_chg (.inl (some (.ref b))) (fun h1 => ∃ v', z_Sb h1 b (cn + 1) (upd f cn x) v' ∧ (v' = v ∨ h.1 ≤ v') ∧ q_two h h1 b v)) := by
  have s' := s
  obtain ⟨ml, cap, bs, s1, -⟩ := s'
  have hr_sb := s1.r0
  refine q_enter (by decide +kernel) rfl rfl (Nat.le_of_ble_eq_true rfl) (fun hz => ?_)
  change q_W _ _ _ _ _ _ _ _ _ [.ref b, .int x] [] _
  refine q_aload_n (by first | assumption | omega | decide) dJ4_append_cf468_0 rfl ?_
  refine q_iload_n dJ4_append_cf468_1 rfl ?_
  refine q_invSU (mc' := 1) (ms' := 286) (d' := d - 1) (as := [.int x]) dJ4_append_cf468_2 kM_J5_append_3fe6f (by decide) kL_J4_50 kW_1378 kP_J4 kI_J5_append_3fe6f rfl (kC_J4.1) s1.c0 rfl rfl (Nat.le_of_ble_eq_true rfl) (by omega) (by decide) (by omega) (by omega) (e_appC5 (d := d - 1) s hx hcn (by omega)) (q_kC (fun h1 hB => ?_)) q_xC
  change q_W _ _ _ _ _ _ _ _ 5 [.ref b, .int x] [.ref b] _
  refine q_pop dJ4_append_cf468_5 rfl ?_
  refine q_aload_n (by first | assumption | omega | decide) dJ4_append_cf468_6 rfl ?_
  exact q_areturn (by first | assumption | omega | decide) dJ4_append_cf468_7 rfl (Or.inl ⟨_, rfl⟩) (by omega) (by omega) ⟨rfl, hB⟩
theorem e_setLen5 {g : q_G} {h : q_H} {d b cn v : Nat} {f : Nat → Int32} (s : z_Sb h b cn f v) (hd : 5 ≤ d) : q_Spec g mJ5_setLength_d00df d 1 286 [.ref b, .int 0] h
    (q_chg (.inl none) (fun h1 => z_Sb h1 b 0 f v ∧ q_two h h1 b v)) := by
  obtain ⟨ml, cap, bs, s1, s2, hbv, h16, hcc, hnar, hf⟩ := s
  have hr_sb := s1.r0
  have hb_sb := s1.bcn
  refine q_enter (by decide +kernel) rfl rfl (Nat.le_of_ble_eq_true rfl) (fun hz => ?_)
  change q_W _ _ _ _ _ _ _ _ _ [.ref b, .int 0] [] _
  refine q_iload_n dJ5_setLength_d00df_0 rfl ?_
  refine q_if_ge 13 dJ5_setLength_d00df_1 (by decide) (fun _ => ?_) (fun b9 => absurd (by decide) b9)
  refine q_aload_n (by first | assumption | omega | decide) dJ5_setLength_d00df_13 rfl ?_
  refine q_iload_n dJ5_setLength_d00df_14 rfl ?_
  refine q_invV (mc' := 1) (ms' := 286) (d' := d - 1) (as := [.int (nI 0)]) dJ5_setLength_d00df_15 kM_J5_ensureCapacityInternal_d00df kL_J5_100 kI_J5_ensureCapacityInternal_d00df kS_J5_ensureCapacityInternal_d00df rfl (kC_J4.1) s1.c0 rfl rfl (Nat.le_of_ble_eq_true rfl) (by omega) (by decide) (by omega) (by omega) (e_ensure0 (d := d - 1) s1 s2 (by omega)) (q_kR ?_) q_xR
  change q_W _ _ _ _ _ _ _ _ 18 [.ref b, .int 0] [] _
  refine q_aload_n (by first | assumption | omega | decide) dJ5_setLength_d00df_18 rfl ?_
  refine q_getf (k := 3) (v := .int (nI cn)) kC_J4 kL_J5_79 rfl (by decide) dJ5_setLength_d00df_19 s1.c0 rfl ?_
  refine q_iload_n dJ5_setLength_d00df_22 rfl ?_
  refine q_icmp_ge 63 dJ5_setLength_d00df_23 (by decide) (fun _ => ?_) (fun b9 => absurd (nI_pos' (by omega)) b9)
  refine q_aload_n (by first | assumption | omega | decide) dJ5_setLength_d00df_63 rfl ?_
  refine q_getf (k := 3) (v := .int (nI cn)) kC_J4 kL_J5_79 rfl (by decide) dJ5_setLength_d00df_64 s1.c0 rfl ?_
  refine q_iload_n dJ5_setLength_d00df_67 rfl ?_
  have tail : ∀ (ml' : Int32) (h1 : q_H), z_Sb1 h1 b v ml' cn → z_By h1 v cap bs → q_two h h1 b v → q_W g mJ5_setLength_d00df d 1 286 (q_chg (.inl none) (fun h1 => z_Sb h1 b 0 f v ∧ q_two h h1 b v)) (0 + 1) (0 + 286) 76 [.ref b, .int 0] [] h1 := by
    intro ml' h1 t1 t2 p1
    refine q_aload_n (by first | assumption | omega | decide) dJ5_setLength_d00df_76 rfl ?_
    refine q_iload_n dJ5_setLength_d00df_77 rfl ?_
    refine q_putf (k := 3) kC_J4 kL_J5_79 rfl (by decide) rfl dJ5_setLength_d00df_78 t1.c0 (Nat.le_of_ble_eq_true rfl) ⟨rfl, rfl⟩ rfl ?_
    refine z_genW (B := fun H => z_Sb1 H b v ml' 0 ∧ z_By H v cap bs ∧ q_two h H b v) ⟨z_Sb1.put0 t1 (cn' := 0) (hbcn := by omega), t2.keep (q_same.set (a := b) (k := 1) (Nat.le_refl _) (by omega)) (by omega), p1.put (by omega)⟩ (fun h2 hB => ?_)
    obtain ⟨u1, u2, p2⟩ := hB
    exact q_return dJ5_setLength_d00df_81 rfl (by omega) (by omega) ⟨rfl, ⟨ml', cap, bs, u1, u2, hbv, h16, by omega, hnar, fun j hj => absurd hj (Nat.not_lt_zero _)⟩, p2⟩
  refine q_icmp_le 76 dJ5_setLength_d00df_68 (by decide) (fun _ => ?_) (fun b9 => ?_)
  · exact tail ml h s1 s2 q_two.rfl'
  · refine q_aload_n (by first | assumption | omega | decide) dJ5_setLength_d00df_71 rfl ?_
    refine q_iconst (v := 1) dJ5_setLength_d00df_72 rfl ?_
    refine q_putf (k := 2) kC_J4 kL_J5_73 rfl (by decide) rfl dJ5_setLength_d00df_73 s1.c0 (Nat.le_of_ble_eq_true rfl) ⟨rfl, rfl⟩ rfl ?_
    refine z_genW (B := fun H => z_Sb1 H b v 1 cn ∧ z_By H v cap bs ∧ q_two h H b v) ⟨z_Sb1.put0 s1 (ml' := 1) (hbcn := by omega), s2.keep (q_same.set (a := b) (k := 1) (Nat.le_refl _) (by omega)) (by omega), q_two.put q_two.rfl' (by omega)⟩ (fun h1 hB => ?_)
    obtain ⟨t1, t2, p1⟩ := hB
    exact tail 1 h1 t1 t2 p1
theorem e_setLen {g : q_G} {h : q_H} {d b cn v : Nat} {f : Nat → Int32} (s : z_Sb h b cn f v) (hd : 6 ≤ d) : q_Spec g mJ4_setLength_d00df d 1 286 [.ref b, .int 0] h
    (q_chg (.inl none) (fun h1 => z_Sb h1 b 0 f v ∧ q_two h h1 b v)) := by
  have s' := s
  obtain ⟨ml, cap, bs, s1, -⟩ := s'
  have hr_sb := s1.r0
  refine q_enter (by decide +kernel) rfl rfl (Nat.le_of_ble_eq_true rfl) (fun hz => ?_)
  change q_W _ _ _ _ _ _ _ _ _ [.ref b, .int 0] [] _
  refine q_aload_n (by first | assumption | omega | decide) dJ4_setLength_d00df_0 rfl ?_
  refine q_iload_n dJ4_setLength_d00df_1 rfl ?_
  refine q_invSU (mc' := 1) (ms' := 286) (d' := d - 1) (as := [.int 0]) dJ4_setLength_d00df_2 kM_J5_setLength_d00df (by decide) kL_J4_333 kW_1369 kP_J4 kI_J5_setLength_d00df rfl (kC_J4.1) s1.c0 rfl rfl (Nat.le_of_ble_eq_true rfl) (by omega) (by decide) (by omega) (by omega) (e_setLen5 (d := d - 1) s (by omega)) (q_kC (fun h1 hB => ?_)) q_xC
  exact q_return dJ4_setLength_d00df_5 rfl (by omega) (by omega) ⟨rfl, hB⟩
theorem e_chk3 {g : q_G} {h : q_H} {d i n : Nat} (hi : i < n) (hn : n < 2 ^ 31) (hd : 0 ≤ d) : q_Spec g mJ3_checkIndex_8e157 d 0 0 [.int (nI i), .int (nI n), .ref 38] h (q_ret (some (.int (nI i))) h) := by
  refine q_enter (by decide +kernel) rfl rfl (Nat.le_of_ble_eq_true rfl) (fun hz => ?_)
  change q_W _ _ _ _ _ _ _ _ _ [.int (nI i), .int (nI n), .ref 38] [] _
  refine q_iload_n dJ3_checkIndex_8e157_0 rfl ?_
  refine q_if_lt 9 dJ3_checkIndex_8e157_1 (by decide) (fun b => absurd b (nI_pos (by omega))) (fun b => ?_)
  refine q_iload_n dJ3_checkIndex_8e157_4 rfl ?_
  refine q_iload_n dJ3_checkIndex_8e157_5 rfl ?_
  refine q_icmp_lt 16 dJ3_checkIndex_8e157_6 (by decide) (fun b => ?_) (fun b => absurd (nI_lt hi hn) b)
  refine q_iload_n dJ3_checkIndex_8e157_16 rfl ?_
  exact q_ireturn dJ3_checkIndex_8e157_17 rfl rfl (by omega) (by omega) ⟨rfl, rfl⟩
theorem e_chk0 {g : q_G} {h : q_H} {d i n : Nat} (hi : i < n) (hn : n < 2 ^ 31) (hd : 1 ≤ d) : q_Spec g mJ0_checkIndex_df160 d 0 0 [.int (nI i), .int (nI n)] h (q_ret none h) := by
  refine q_enter (by decide +kernel) rfl rfl (Nat.le_of_ble_eq_true rfl) (fun hz => ?_)
  change q_W _ _ _ _ _ _ _ _ _ [.int (nI i), .int (nI n)] [] _
  refine q_iload_n dJ0_checkIndex_df160_0 rfl ?_
  refine q_iload_n dJ0_checkIndex_df160_1 rfl ?_
  refine q_getstatic (v := .ref 38) (by simp [q_zs]) kL_J0_1053 rfl dJ0_checkIndex_df160_2 ?_
  refine q_invS (mc' := 0) (ms' := 0) (d' := d - 1) (as := [.int (nI i), .int (nI n), .ref 38]) dJ0_checkIndex_df160_5 kM_J3_checkIndex_8e157 kL_J0_1059 kT_J3_checkIndex_8e157 rfl rfl rfl (Nat.le_of_ble_eq_true rfl) (by omega) (by decide) (by omega) (by omega) (e_chk3 (d := d - 1) hi hn (by omega)) (q_kR ?_) q_xR
  change q_W _ _ _ _ _ _ _ _ 8 [.int (nI i), .int (nI n)] [.int (nI i)] _
  refine q_pop dJ0_checkIndex_df160_8 rfl ?_
  exact q_return dJ0_checkIndex_df160_9 rfl (by omega) (by omega) ⟨rfl, rfl⟩
theorem e_charAt5 {g : q_G} {h : q_H} {d b cn v i : Nat} {f : Nat → Int32} (s : z_Sb h b cn f v) (hi : i < cn) (hd : 2 ≤ d) : q_Spec g mJ5_charAt_5068e d 0 0 [.ref b, .int (nI i)] h (q_ret (some (.int (f i))) h) := by
  obtain ⟨ml, cap, bs, s1, s2, hbv, h16, hcc, hnar, hf⟩ := s
  have hr_sb := s1.r0
  have hr_by := s2.r0
  have hb_by := s2.bcap
  obtain ⟨hl, hbs⟩ := hf i hi
  refine q_enter (by decide +kernel) rfl rfl (Nat.le_of_ble_eq_true rfl) (fun hz => ?_)
  change q_W _ _ _ _ _ _ _ _ _ [.ref b, .int (nI i), q_u, q_u, q_u] [] _
  refine q_aload_n (by first | assumption | omega | decide) dJ5_charAt_5068e_0 rfl ?_
  refine q_getf (k := 1) (v := .int 0) kC_J4 kL_J5_22 rfl (by decide) dJ5_charAt_5068e_1 s1.c0 rfl ?_
  refine q_istore_n dJ5_charAt_5068e_4 (by decide) rfl ?_
  change q_W _ _ _ _ _ _ _ _ _ [.ref b, .int (nI i), .int 0, q_u, q_u] [] _
  refine q_aload_n (by first | assumption | omega | decide) dJ5_charAt_5068e_5 rfl ?_
  refine q_getf (k := 0) (v := .ref v) kC_J4 kL_J5_15 rfl (by decide) dJ5_charAt_5068e_6 s1.c0 rfl ?_
  refine q_astore_n (by first | assumption | omega | decide) dJ5_charAt_5068e_9 (by decide) rfl ?_
  change q_W _ _ _ _ _ _ _ _ _ [.ref b, .int (nI i), .int 0, .ref v, q_u] [] _
  refine q_aload_n (by first | assumption | omega | decide) dJ5_charAt_5068e_10 rfl ?_
  refine q_getf (k := 3) (v := .int (nI cn)) kC_J4 kL_J5_79 rfl (by decide) dJ5_charAt_5068e_11 s1.c0 rfl ?_
  refine q_aload_n (by first | assumption | omega | decide) dJ5_charAt_5068e_14 rfl ?_
  refine q_alenI rfl dJ5_charAt_5068e_15 s2.c0 ?_
  change q_W _ _ _ _ _ _ _ _ _ _ [.int (nI cap), .int (nI cn)] _
  refine q_iload_n dJ5_charAt_5068e_16 rfl ?_
  refine q_ishr0 dJ5_charAt_5068e_17 ?_
  refine q_mmin kL_J5_138 kT_J9_min_7cf53 (kM_J9_min_7cf53.2.2.2.1) rfl dJ5_charAt_5068e_18 (Nat.le_of_ble_eq_true rfl) (by omega) (by omega) (by omega) ?_
  rw [z_nite (by omega) (by omega), show (if cap < cn then cap else cn) = cn by split <;> omega]
  refine q_istore dJ5_charAt_5068e_21 (by decide) rfl ?_
  change q_W _ _ _ _ _ _ _ _ _ [.ref b, .int (nI i), .int 0, .ref v, .int (nI cn)] [] _
  refine q_iload_n dJ5_charAt_5068e_23 rfl ?_
  refine q_iload dJ5_charAt_5068e_24 rfl ?_
  refine q_invS (mc' := 0) (ms' := 0) (d' := d - 1) (as := [.int (nI i), .int (nI cn)]) dJ5_charAt_5068e_26 kM_J0_checkIndex_df160 kL_J5_144 kT_J0_checkIndex_df160 rfl rfl rfl (Nat.le_of_ble_eq_true rfl) (by omega) (by decide) (by omega) (by omega) (e_chk0 (d := d - 1) hi (by omega) (by omega)) (q_kR ?_) q_xR
  change q_W _ _ _ _ _ _ _ _ 29 [.ref b, .int (nI i), .int 0, .ref v, .int (nI cn)] [] _
  refine q_iload_n dJ5_charAt_5068e_29 rfl ?_
  refine q_if_ne 42 dJ5_charAt_5068e_30 (by decide) (fun b9 => absurd rfl b9) (fun b9 => ?_)
  refine q_aload_n (by first | assumption | omega | decide) dJ5_charAt_5068e_33 rfl ?_
  refine q_iload_n dJ5_charAt_5068e_34 rfl ?_
  refine q_baldN (j := i) (f := bs) dJ5_charAt_5068e_35 s2.c0 (by omega) (by omega) ?_
  rw [hbs]
  refine q_sipush (v := 255) dJ5_charAt_5068e_36 rfl ?_
  refine q_iand dJ5_charAt_5068e_39 ?_
  refine q_i2c (v := f i) dJ5_charAt_5068e_40 (z_lat_get hl) ?_
  exact q_ireturn dJ5_charAt_5068e_41 rfl (z_lat_char hl) (by omega) (by omega) ⟨rfl, rfl⟩
theorem e_charAt {g : q_G} {h : q_H} {d b cn v i : Nat} {f : Nat → Int32} (s : z_Sb h b cn f v) (hi : i < cn) (hd : 3 ≤ d) : q_Spec g mJ4_charAt_5068e d 0 0 [.ref b, .int (nI i)] h (q_ret (some (.int (f i))) h) := by
  have s' := s
  obtain ⟨ml, cap, bs, s1, s2, hbv, h16, hcc, hnar, hf⟩ := s'
  have hr_sb := s1.r0
  obtain ⟨hl, hbs⟩ := hf i hi
  refine q_enter (by decide +kernel) rfl rfl (Nat.le_of_ble_eq_true rfl) (fun hz => ?_)
  change q_W _ _ _ _ _ _ _ _ _ [.ref b, .int (nI i)] [] _
  refine q_aload_n (by first | assumption | omega | decide) dJ4_charAt_5068e_0 rfl ?_
  refine q_iload_n dJ4_charAt_5068e_1 rfl ?_
  refine q_invSU (mc' := 0) (ms' := 0) (d' := d - 1) (as := [.int (nI i)]) dJ4_charAt_5068e_2 kM_J5_charAt_5068e (by decide) kL_J4_329 kW_1380 kP_J4 kI_J5_charAt_5068e rfl (kC_J4.1) s1.c0 rfl rfl (Nat.le_of_ble_eq_true rfl) (by omega) (by decide) (by omega) (by omega) (e_charAt5 (d := d - 1) s hi (by omega)) (q_kR ?_) q_xR
  exact q_ireturn dJ4_charAt_5068e_5 rfl (z_lat_char hl) (by omega) (by omega) ⟨rfl, rfl⟩
theorem e_stringSize {g : q_G} {h : q_H} {d n : Nat} (hn : n < 10000) (hd : 0 ≤ d) : q_Spec g mJ6_stringSize_0f7a4 d 0 0 [.int (nI n)] h (q_ret (some (.int (nI (sb_dg n)))) h) := by
  refine q_enter (by decide +kernel) rfl rfl (Nat.le_of_ble_eq_true rfl) (fun hz => ?_)
  change q_W _ _ _ _ _ _ _ _ _ [.int (nI n), q_u, q_u, q_u] [] _
  refine q_iconst (v := 1) dJ6_stringSize_0f7a4_0 rfl ?_
  refine q_istore_n dJ6_stringSize_0f7a4_1 (by decide) rfl ?_
  change q_W _ _ _ _ _ _ _ _ _ [.int (nI n), .int 1, q_u, q_u] [] _
  refine q_iload_n dJ6_stringSize_0f7a4_2 rfl ?_
  refine q_if_lt 11 dJ6_stringSize_0f7a4_3 (by decide) (fun b => absurd b (nI_pos (by omega))) (fun b => ?_)
  refine q_iconst (v := 0) dJ6_stringSize_0f7a4_6 rfl ?_
  refine q_istore_n dJ6_stringSize_0f7a4_7 (by decide) rfl ?_
  change q_W _ _ _ _ _ _ _ _ _ [.int (nI n), .int 0, q_u, q_u] [] _
  refine q_iload_n dJ6_stringSize_0f7a4_8 rfl ?_
  refine q_ineg dJ6_stringSize_0f7a4_9 ?_
  refine q_istore_n dJ6_stringSize_0f7a4_10 (by decide) rfl ?_
  change q_W _ _ _ _ _ _ _ _ _ [.int (-(nI n)), .int 0, q_u, q_u] [] _
  refine q_bipush (v := -(nI 10)) dJ6_stringSize_0f7a4_11 (by decide) ?_
  refine q_istore_n dJ6_stringSize_0f7a4_13 (by decide) rfl ?_
  refine q_iconst (v := 1) dJ6_stringSize_0f7a4_14 rfl ?_
  refine q_istore_n dJ6_stringSize_0f7a4_15 (by decide) rfl ?_
  change q_W _ _ _ _ _ _ _ _ 16 [.int (-(nI n)), .int 0, .int (-(nI 10)), .int (nI 1)] [] _
  refine q_iload_n dJ6_stringSize_0f7a4_16 rfl ?_
  refine q_bipush (v := 10) dJ6_stringSize_0f7a4_17 rfl ?_
  refine q_icmp_ge 42 dJ6_stringSize_0f7a4_19 (by decide) (fun b => absurd b (by decide)) (fun b => ?_)
  refine q_iload_n dJ6_stringSize_0f7a4_22 rfl ?_
  refine q_iload_n dJ6_stringSize_0f7a4_23 rfl ?_
  refine q_icmp_le 31 dJ6_stringSize_0f7a4_24 (by decide) (fun b1 => ?_) (fun b1 => ?_)
  · replace b1 := (sb_nle (a := n) (b := 10) (by omega) (by omega)).mp b1
    refine q_bipush (v := 10) dJ6_stringSize_0f7a4_31 rfl ?_
    refine q_iload_n dJ6_stringSize_0f7a4_33 rfl ?_
    refine q_imul dJ6_stringSize_0f7a4_34 ?_
    refine q_istore_n dJ6_stringSize_0f7a4_35 (by decide) rfl ?_
    refine q_iinc (x := nI 1) (v := nI 2) dJ6_stringSize_0f7a4_36 rfl (nI_add _ 1) rfl ?_
    refine q_goto 16 dJ6_stringSize_0f7a4_39 (by decide) ?_
    have e9 : (10 : Int32) * (-(nI 10)) = -(nI 100) := by decide
    rw [e9]
    change q_W _ _ _ _ _ _ _ _ 16 [.int (-(nI n)), .int 0, .int (-(nI 100)), .int (nI 2)] [] _
    refine q_iload_n dJ6_stringSize_0f7a4_16 rfl ?_
    refine q_bipush (v := 10) dJ6_stringSize_0f7a4_17 rfl ?_
    refine q_icmp_ge 42 dJ6_stringSize_0f7a4_19 (by decide) (fun b => absurd b (by decide)) (fun b => ?_)
    refine q_iload_n dJ6_stringSize_0f7a4_22 rfl ?_
    refine q_iload_n dJ6_stringSize_0f7a4_23 rfl ?_
    refine q_icmp_le 31 dJ6_stringSize_0f7a4_24 (by decide) (fun b2 => ?_) (fun b2 => ?_)
    · replace b2 := (sb_nle (a := n) (b := 100) (by omega) (by omega)).mp b2
      refine q_bipush (v := 10) dJ6_stringSize_0f7a4_31 rfl ?_
      refine q_iload_n dJ6_stringSize_0f7a4_33 rfl ?_
      refine q_imul dJ6_stringSize_0f7a4_34 ?_
      refine q_istore_n dJ6_stringSize_0f7a4_35 (by decide) rfl ?_
      refine q_iinc (x := nI 2) (v := nI 3) dJ6_stringSize_0f7a4_36 rfl (nI_add _ 1) rfl ?_
      refine q_goto 16 dJ6_stringSize_0f7a4_39 (by decide) ?_
      have e9 : (10 : Int32) * (-(nI 100)) = -(nI 1000) := by decide
      rw [e9]
      change q_W _ _ _ _ _ _ _ _ 16 [.int (-(nI n)), .int 0, .int (-(nI 1000)), .int (nI 3)] [] _
      refine q_iload_n dJ6_stringSize_0f7a4_16 rfl ?_
      refine q_bipush (v := 10) dJ6_stringSize_0f7a4_17 rfl ?_
      refine q_icmp_ge 42 dJ6_stringSize_0f7a4_19 (by decide) (fun b => absurd b (by decide)) (fun b => ?_)
      refine q_iload_n dJ6_stringSize_0f7a4_22 rfl ?_
      refine q_iload_n dJ6_stringSize_0f7a4_23 rfl ?_
      refine q_icmp_le 31 dJ6_stringSize_0f7a4_24 (by decide) (fun b3 => ?_) (fun b3 => ?_)
      · replace b3 := (sb_nle (a := n) (b := 1000) (by omega) (by omega)).mp b3
        refine q_bipush (v := 10) dJ6_stringSize_0f7a4_31 rfl ?_
        refine q_iload_n dJ6_stringSize_0f7a4_33 rfl ?_
        refine q_imul dJ6_stringSize_0f7a4_34 ?_
        refine q_istore_n dJ6_stringSize_0f7a4_35 (by decide) rfl ?_
        refine q_iinc (x := nI 3) (v := nI 4) dJ6_stringSize_0f7a4_36 rfl (nI_add _ 1) rfl ?_
        refine q_goto 16 dJ6_stringSize_0f7a4_39 (by decide) ?_
        have e9 : (10 : Int32) * (-(nI 1000)) = -(nI 10000) := by decide
        rw [e9]
        change q_W _ _ _ _ _ _ _ _ 16 [.int (-(nI n)), .int 0, .int (-(nI 10000)), .int (nI 4)] [] _
        refine q_iload_n dJ6_stringSize_0f7a4_16 rfl ?_
        refine q_bipush (v := 10) dJ6_stringSize_0f7a4_17 rfl ?_
        refine q_icmp_ge 42 dJ6_stringSize_0f7a4_19 (by decide) (fun b => absurd b (by decide)) (fun b => ?_)
        refine q_iload_n dJ6_stringSize_0f7a4_22 rfl ?_
        refine q_iload_n dJ6_stringSize_0f7a4_23 rfl ?_
        refine q_icmp_le 31 dJ6_stringSize_0f7a4_24 (by decide) (fun b4 => ?_) (fun b4 => ?_)
        · replace b4 := (sb_nle (a := n) (b := 10000) (by omega) (by omega)).mp b4
          omega
        · replace b4 : n < 10000 := Nat.lt_of_not_le (fun q => b4 ((sb_nle (a := n) (b := 10000) (by omega) (by omega)).mpr q))
          refine q_iload_n dJ6_stringSize_0f7a4_27 rfl ?_
          refine q_iload_n dJ6_stringSize_0f7a4_28 rfl ?_
          refine q_iaddN (a := 4) (b := 0) dJ6_stringSize_0f7a4_29 ?_
          refine q_ireturn dJ6_stringSize_0f7a4_30 rfl rfl (by omega) (by omega) ⟨?_, rfl⟩
          rw [show sb_dg n = 4 by unfold sb_dg; repeat (first | rw [if_pos (by omega)] | rw [if_neg (by omega)])]
      · replace b3 : n < 1000 := Nat.lt_of_not_le (fun q => b3 ((sb_nle (a := n) (b := 1000) (by omega) (by omega)).mpr q))
        refine q_iload_n dJ6_stringSize_0f7a4_27 rfl ?_
        refine q_iload_n dJ6_stringSize_0f7a4_28 rfl ?_
        refine q_iaddN (a := 3) (b := 0) dJ6_stringSize_0f7a4_29 ?_
        refine q_ireturn dJ6_stringSize_0f7a4_30 rfl rfl (by omega) (by omega) ⟨?_, rfl⟩
        rw [show sb_dg n = 3 by unfold sb_dg; repeat (first | rw [if_pos (by omega)] | rw [if_neg (by omega)])]
    · replace b2 : n < 100 := Nat.lt_of_not_le (fun q => b2 ((sb_nle (a := n) (b := 100) (by omega) (by omega)).mpr q))
      refine q_iload_n dJ6_stringSize_0f7a4_27 rfl ?_
      refine q_iload_n dJ6_stringSize_0f7a4_28 rfl ?_
      refine q_iaddN (a := 2) (b := 0) dJ6_stringSize_0f7a4_29 ?_
      refine q_ireturn dJ6_stringSize_0f7a4_30 rfl rfl (by omega) (by omega) ⟨?_, rfl⟩
      rw [show sb_dg n = 2 by unfold sb_dg; repeat (first | rw [if_pos (by omega)] | rw [if_neg (by omega)])]
  · replace b1 : n < 10 := Nat.lt_of_not_le (fun q => b1 ((sb_nle (a := n) (b := 10) (by omega) (by omega)).mpr q))
    refine q_iload_n dJ6_stringSize_0f7a4_27 rfl ?_
    refine q_iload_n dJ6_stringSize_0f7a4_28 rfl ?_
    refine q_iaddN (a := 1) (b := 0) dJ6_stringSize_0f7a4_29 ?_
    refine q_ireturn dJ6_stringSize_0f7a4_30 rfl rfl (by omega) (by omega) ⟨?_, rfl⟩
    rw [show sb_dg n = 1 by unfold sb_dg; repeat (first | rw [if_pos (by omega)] | rw [if_neg (by omega)])]
theorem l_getChars0 {g : q_G} {h h0 : q_H} {d v cap m p : Nat} {Q : q_O → q_H → Prop} {bs : Nat → Int32} {z1 z3 z4 : Int32} (hm : m < 100) (hp : 1 ≤ p) (hp3 : 10 ≤ m → 2 ≤ p) (hp2 : p ≤ cap) (s : z_By h0 v cap bs) (pq : q_same h h0 v 1)
    (K : ∀ h1, z_By h1 v cap (if m < 10 then upd bs (p - 1) (nI (48 + m % 10)) else upd (upd bs (p - 1) (nI (48 + m % 10))) (p - 2) (nI (48 + m / 10))) → q_same h h1 v 1 → Q (.inl (some (.int (nI (if m < 10 then p - 1 else p - 2))))) h1) : q_W g mJ6_getChars_ba4f3 d 0 0 Q 0 0 22 [.int (-(nI m)), .int z1, .ref v, q_u, q_u, .int (nI (p - 0)), .int 0] [] h0 := by
  have hr_by := s.r0
  have hb_by := s.bcap
  refine q_iload_n dJ6_getChars_ba4f3_22 rfl ?_
  refine q_bipush (v := -(nI 100)) dJ6_getChars_ba4f3_23 (by decide) ?_
  refine q_icmp_gt 72 dJ6_getChars_ba4f3_25 (by decide) (fun b => ?_) (fun b => absurd ((sb_nlt (a := 100) (b := m) (by omega) (by omega)).mpr (by omega)) b)
  refine q_aload_n (by first | assumption | omega | decide) dJ6_getChars_ba4f3_72 rfl ?_
  refine q_iinc (x := nI (p - 0)) (v := nI (p - 1)) dJ6_getChars_ba4f3_73 rfl (by rw [q_m1 (by omega)]; congr 1) rfl ?_
  refine q_iload dJ6_getChars_ba4f3_76 rfl ?_
  refine q_getstatic (v := .ref 37) (by simp [q_zs]) kL_J6_83 rfl dJ6_getChars_ba4f3_78 ?_
  refine q_iload_n dJ6_getChars_ba4f3_81 rfl ?_
  refine q_ineg dJ6_getChars_ba4f3_82 ?_
  rw [Int32.neg_neg]
  refine q_taldBN (i := 37) (n := 100) (f := fun j => .int (nI (48 + j % 10))) (j := m) (by decide) dJ6_getChars_ba4f3_83 rfl (by omega) (by decide) ?_
  refine q_bastN (j := p - 1) (z_latN (c := 48 + m % 10) (by omega)) dJ6_getChars_ba4f3_84 s.c0 (by omega) (by omega) ?_
  refine z_genW (B := fun H => z_By H v cap (upd bs (p - 1) (nI (48 + m % 10))) ∧ q_same h H v 1) ⟨z_By.put0 s, pq.trans (q_same.set (by omega) (by omega))⟩ (fun h1 hB => ?_)
  obtain ⟨s1, p1⟩ := hB
  refine q_iload_n dJ6_getChars_ba4f3_85 rfl ?_
  refine q_bipush (v := -(nI 9)) dJ6_getChars_ba4f3_86 (by decide) ?_
  refine q_icmp_ge 104 dJ6_getChars_ba4f3_88 (by decide) (fun b => ?_) (fun b => ?_)
  · have c := (sb_nle (a := 9) (b := m) (by omega) (by omega)).mp b
    refine q_iload dJ6_getChars_ba4f3_104 rfl ?_
    refine q_if_eq 118 dJ6_getChars_ba4f3_106 (by decide) (fun _ => ?_) (fun b9 => absurd rfl b9)
    refine q_iload dJ6_getChars_ba4f3_118 rfl ?_
    have k := K h1 (by rw [if_pos (by omega)]; exact s1) p1
    rw [if_pos (by omega)] at k
    exact q_ireturn dJ6_getChars_ba4f3_120 rfl rfl (by omega) (by omega) k
  · have c : 9 < m := Nat.lt_of_not_le (fun q => b ((sb_nle (a := 9) (b := m) (by omega) (by omega)).mpr q))
    replace hp3 := hp3 (by omega)
    refine q_aload_n (by first | assumption | omega | decide) dJ6_getChars_ba4f3_91 rfl ?_
    refine q_iinc (x := nI (p - 1)) (v := nI (p - 2)) dJ6_getChars_ba4f3_92 rfl (by rw [q_m1 (by omega)]; congr 1) rfl ?_
    refine q_iload dJ6_getChars_ba4f3_95 rfl ?_
    refine q_getstatic (v := .ref 36) (by simp [q_zs]) kL_J6_87 rfl dJ6_getChars_ba4f3_97 ?_
    refine q_iload_n dJ6_getChars_ba4f3_100 rfl ?_
    refine q_ineg dJ6_getChars_ba4f3_101 ?_
    rw [Int32.neg_neg]
    refine q_taldBN (i := 36) (n := 100) (f := fun j => .int (nI (48 + j / 10))) (j := m) (by decide) dJ6_getChars_ba4f3_102 rfl (by omega) (by decide) ?_
    refine q_bastN (j := p - 2) (z_latN (c := 48 + m / 10) (by omega)) dJ6_getChars_ba4f3_103 s1.c0 (by omega) (by omega) ?_
    refine z_genW (B := fun H => z_By H v cap (upd (upd bs (p - 1) (nI (48 + m % 10))) (p - 2) (nI (48 + m / 10))) ∧ q_same h H v 1) ⟨z_By.put0 s1, p1.trans (q_same.set (by omega) (by omega))⟩ (fun h2 hB => ?_)
    obtain ⟨s2, p2⟩ := hB
    refine q_iload dJ6_getChars_ba4f3_104 rfl ?_
    refine q_if_eq 118 dJ6_getChars_ba4f3_106 (by decide) (fun _ => ?_) (fun b9 => absurd rfl b9)
    refine q_iload dJ6_getChars_ba4f3_118 rfl ?_
    have k := K h2 (by rw [if_neg (by omega)]; exact s2) p2
    rw [if_neg (by omega)] at k
    exact q_ireturn dJ6_getChars_ba4f3_120 rfl rfl (by omega) (by omega) k
theorem l_getChars2 {g : q_G} {h h0 : q_H} {d v cap m p : Nat} {Q : q_O → q_H → Prop} {bs : Nat → Int32} {z1 z3 z4 : Int32} (hm : m < 100) (hp : 3 ≤ p) (hp3 : 10 ≤ m → 4 ≤ p) (hp2 : p ≤ cap) (s : z_By h0 v cap bs) (pq : q_same h h0 v 1)
    (K : ∀ h1, z_By h1 v cap (if m < 10 then upd bs (p - 3) (nI (48 + m % 10)) else upd (upd bs (p - 3) (nI (48 + m % 10))) (p - 4) (nI (48 + m / 10))) → q_same h h1 v 1 → Q (.inl (some (.int (nI (if m < 10 then p - 3 else p - 4))))) h1) : q_W g mJ6_getChars_ba4f3 d 0 0 Q 0 0 22 [.int (-(nI m)), .int z1, .ref v, .int z3, .int z4, .int (nI (p - 2)), .int 0] [] h0 := by
  have hr_by := s.r0
  have hb_by := s.bcap
  refine q_iload_n dJ6_getChars_ba4f3_22 rfl ?_
  refine q_bipush (v := -(nI 100)) dJ6_getChars_ba4f3_23 (by decide) ?_
  refine q_icmp_gt 72 dJ6_getChars_ba4f3_25 (by decide) (fun b => ?_) (fun b => absurd ((sb_nlt (a := 100) (b := m) (by omega) (by omega)).mpr (by omega)) b)
  refine q_aload_n (by first | assumption | omega | decide) dJ6_getChars_ba4f3_72 rfl ?_
  refine q_iinc (x := nI (p - 2)) (v := nI (p - 3)) dJ6_getChars_ba4f3_73 rfl (by rw [q_m1 (by omega)]; congr 1) rfl ?_
  refine q_iload dJ6_getChars_ba4f3_76 rfl ?_
  refine q_getstatic (v := .ref 37) (by simp [q_zs]) kL_J6_83 rfl dJ6_getChars_ba4f3_78 ?_
  refine q_iload_n dJ6_getChars_ba4f3_81 rfl ?_
  refine q_ineg dJ6_getChars_ba4f3_82 ?_
  rw [Int32.neg_neg]
  refine q_taldBN (i := 37) (n := 100) (f := fun j => .int (nI (48 + j % 10))) (j := m) (by decide) dJ6_getChars_ba4f3_83 rfl (by omega) (by decide) ?_
  refine q_bastN (j := p - 3) (z_latN (c := 48 + m % 10) (by omega)) dJ6_getChars_ba4f3_84 s.c0 (by omega) (by omega) ?_
  refine z_genW (B := fun H => z_By H v cap (upd bs (p - 3) (nI (48 + m % 10))) ∧ q_same h H v 1) ⟨z_By.put0 s, pq.trans (q_same.set (by omega) (by omega))⟩ (fun h1 hB => ?_)
  obtain ⟨s1, p1⟩ := hB
  refine q_iload_n dJ6_getChars_ba4f3_85 rfl ?_
  refine q_bipush (v := -(nI 9)) dJ6_getChars_ba4f3_86 (by decide) ?_
  refine q_icmp_ge 104 dJ6_getChars_ba4f3_88 (by decide) (fun b => ?_) (fun b => ?_)
  · have c := (sb_nle (a := 9) (b := m) (by omega) (by omega)).mp b
    refine q_iload dJ6_getChars_ba4f3_104 rfl ?_
    refine q_if_eq 118 dJ6_getChars_ba4f3_106 (by decide) (fun _ => ?_) (fun b9 => absurd rfl b9)
    refine q_iload dJ6_getChars_ba4f3_118 rfl ?_
    have k := K h1 (by rw [if_pos (by omega)]; exact s1) p1
    rw [if_pos (by omega)] at k
    exact q_ireturn dJ6_getChars_ba4f3_120 rfl rfl (by omega) (by omega) k
  · have c : 9 < m := Nat.lt_of_not_le (fun q => b ((sb_nle (a := 9) (b := m) (by omega) (by omega)).mpr q))
    replace hp3 := hp3 (by omega)
    refine q_aload_n (by first | assumption | omega | decide) dJ6_getChars_ba4f3_91 rfl ?_
    refine q_iinc (x := nI (p - 3)) (v := nI (p - 4)) dJ6_getChars_ba4f3_92 rfl (by rw [q_m1 (by omega)]; congr 1) rfl ?_
    refine q_iload dJ6_getChars_ba4f3_95 rfl ?_
    refine q_getstatic (v := .ref 36) (by simp [q_zs]) kL_J6_87 rfl dJ6_getChars_ba4f3_97 ?_
    refine q_iload_n dJ6_getChars_ba4f3_100 rfl ?_
    refine q_ineg dJ6_getChars_ba4f3_101 ?_
    rw [Int32.neg_neg]
    refine q_taldBN (i := 36) (n := 100) (f := fun j => .int (nI (48 + j / 10))) (j := m) (by decide) dJ6_getChars_ba4f3_102 rfl (by omega) (by decide) ?_
    refine q_bastN (j := p - 4) (z_latN (c := 48 + m / 10) (by omega)) dJ6_getChars_ba4f3_103 s1.c0 (by omega) (by omega) ?_
    refine z_genW (B := fun H => z_By H v cap (upd (upd bs (p - 3) (nI (48 + m % 10))) (p - 4) (nI (48 + m / 10))) ∧ q_same h H v 1) ⟨z_By.put0 s1, p1.trans (q_same.set (by omega) (by omega))⟩ (fun h2 hB => ?_)
    obtain ⟨s2, p2⟩ := hB
    refine q_iload dJ6_getChars_ba4f3_104 rfl ?_
    refine q_if_eq 118 dJ6_getChars_ba4f3_106 (by decide) (fun _ => ?_) (fun b9 => absurd rfl b9)
    refine q_iload dJ6_getChars_ba4f3_118 rfl ?_
    have k := K h2 (by rw [if_neg (by omega)]; exact s2) p2
    rw [if_neg (by omega)] at k
    exact q_ireturn dJ6_getChars_ba4f3_120 rfl rfl (by omega) (by omega) k
/-- the digits of n written ahead of place p -/
def x_gc (n p : Nat) (bs : Nat → Int32) : Nat → Int32 :=
  if n < 100 then (if n < 10 then upd bs (p - 1) (nI (48 + n % 10)) else upd (upd bs (p - 1) (nI (48 + n % 10))) (p - 2) (nI (48 + n / 10)))
  else let cs := upd (upd bs (p - 1) (nI (48 + n % 100 % 10))) (p - 2) (nI (48 + n % 100 / 10))
    if n / 100 < 10 then upd cs (p - 3) (nI (48 + n / 100 % 10)) else upd (upd cs (p - 3) (nI (48 + n / 100 % 10))) (p - 4) (nI (48 + n / 100 / 10))
theorem z_dg {n : Nat} (hn : n < 10000) : sb_dg n = if n < 100 then (if n < 10 then 1 else 2) else if n / 100 < 10 then 3 else 4 := by
  unfold sb_dg
  repeat (first | rfl | (split <;> first | omega | skip))
theorem e_getChars {g : q_G} {h : q_H} {d v cap n p : Nat} {bs : Nat → Int32} (s : z_By h v cap bs) (hn : n < 10000) (hp : sb_dg n ≤ p) (hp2 : p ≤ cap) (hd : 0 ≤ d) : q_Spec g mJ6_getChars_ba4f3 d 0 0 [.int (nI n), .int (nI p), .ref v] h
    (q_chg (.inl (some (.int (nI (p - sb_dg n))))) (fun h1 => z_By h1 v cap (x_gc n p bs) ∧ q_same h h1 v 1)) := by
  have hr_by := s.r0
  have hb_by := s.bcap
  rw [z_dg hn] at hp
  refine q_enter (by decide +kernel) rfl rfl (Nat.le_of_ble_eq_true rfl) (fun hz => ?_)
  change q_W _ _ _ _ _ _ _ _ _ [.int (nI n), .int (nI p), .ref v, q_u, q_u, q_u, q_u] [] _
  refine q_iload_n dJ6_getChars_ba4f3_0 rfl ?_
  refine q_istore dJ6_getChars_ba4f3_1 (by decide) rfl ?_
  refine q_iload_n dJ6_getChars_ba4f3_3 rfl ?_
  refine q_if_ge 11 dJ6_getChars_ba4f3_4 (by decide) (fun _ => ?_) (fun b => absurd (nI_pos' (by omega)) b)
  refine q_iconst (v := 0) dJ6_getChars_ba4f3_11 rfl ?_
  refine q_istore dJ6_getChars_ba4f3_12 (by decide) rfl ?_
  refine q_iload dJ6_getChars_ba4f3_14 rfl ?_
  refine q_if_ne 22 dJ6_getChars_ba4f3_16 (by decide) (fun b9 => absurd rfl b9) (fun _ => ?_)
  refine q_iload_n dJ6_getChars_ba4f3_19 rfl ?_
  refine q_ineg dJ6_getChars_ba4f3_20 ?_
  refine q_istore_n dJ6_getChars_ba4f3_21 (by decide) rfl ?_
  change q_W _ _ _ _ _ _ _ _ 22 [.int (-(nI n)), .int (nI p), .ref v, q_u, q_u, .int (nI (p - 0)), .int 0] [] _
  by_cases hb : n < 100
  · rw [if_pos hb] at hp
    refine l_getChars0 (z3 := 0) (z4 := 0) hb (by split at hp <;> omega) (fun _ => by split at hp <;> omega) hp2 s q_same.rfl' (fun h1 t p1 => ⟨?_, ?_, p1⟩)
    · rw [z_dg hn, if_pos hb]
      split <;> rfl
    · unfold x_gc
      rw [if_pos hb]
      exact t
  · rw [if_neg hb] at hp
    have hp3 : 3 ≤ p := by split at hp <;> omega
    refine q_iload_n dJ6_getChars_ba4f3_22 rfl ?_
    refine q_bipush (v := -(nI 100)) dJ6_getChars_ba4f3_23 (by decide) ?_
    refine q_icmp_gt 72 dJ6_getChars_ba4f3_25 (by decide) (fun b => absurd ((sb_nlt (a := 100) (b := n) (by omega) (by omega)).mp b) (by omega)) (fun b => ?_)
    refine q_iload_n dJ6_getChars_ba4f3_28 rfl ?_
    refine q_bipush (v := 100) dJ6_getChars_ba4f3_29 rfl ?_
    refine q_idiv dJ6_getChars_ba4f3_31 (by decide) ?_
    rw [sb_ndiv (by omega)]
    refine q_istore_n dJ6_getChars_ba4f3_32 (by decide) rfl ?_
    change q_W _ _ _ _ _ _ _ _ _ [.int (-(nI n)), .int (nI p), .ref v, .int (-(nI (n / 100))), q_u, .int (nI (p - 0)), .int 0] [] _
    refine q_iload_n dJ6_getChars_ba4f3_33 rfl ?_
    refine q_bipush (v := 100) dJ6_getChars_ba4f3_34 rfl ?_
    refine q_imul dJ6_getChars_ba4f3_36 ?_
    refine q_iload_n dJ6_getChars_ba4f3_37 rfl ?_
    refine q_isub dJ6_getChars_ba4f3_38 ?_
    rw [sb_nrem (by omega)]
    refine q_istore dJ6_getChars_ba4f3_39 (by decide) rfl ?_
    refine q_iload_n dJ6_getChars_ba4f3_41 rfl ?_
    refine q_istore_n dJ6_getChars_ba4f3_42 (by decide) rfl ?_
    change q_W _ _ _ _ _ _ _ _ _ [.int (-(nI (n / 100))), .int (nI p), .ref v, .int (-(nI (n / 100))), .int (nI (n % 100)), .int (nI (p - 0)), .int 0] [] _
    refine q_aload_n (by first | assumption | omega | decide) dJ6_getChars_ba4f3_43 rfl ?_
    refine q_iinc (x := nI (p - 0)) (v := nI (p - 1)) dJ6_getChars_ba4f3_44 rfl (by rw [q_m1 (by omega)]; congr 1) rfl ?_
    refine q_iload dJ6_getChars_ba4f3_47 rfl ?_
    refine q_getstatic (v := .ref 37) (by simp [q_zs]) kL_J6_83 rfl dJ6_getChars_ba4f3_49 ?_
    refine q_iload dJ6_getChars_ba4f3_52 rfl ?_
    refine q_taldBN (i := 37) (n := 100) (f := fun j => .int (nI (48 + j % 10))) (j := n % 100) (by decide) dJ6_getChars_ba4f3_54 rfl (by omega) (by decide) ?_
    refine q_bastN (j := p - 1) (z_latN (c := 48 + (n % 100) % 10) (by omega)) dJ6_getChars_ba4f3_55 s.c0 (by omega) (by omega) ?_
    refine z_genW (B := fun H => z_By H v cap (upd bs (p - 1) (nI (48 + (n % 100) % 10))) ∧ q_same h H v 1) ⟨z_By.put0 s, (q_same.rfl' (h := h)).trans (q_same.set (by omega) (by omega))⟩ (fun h1 hB => ?_)
    obtain ⟨s1, p1⟩ := hB
    refine q_aload_n (by first | assumption | omega | decide) dJ6_getChars_ba4f3_56 rfl ?_
    refine q_iinc (x := nI (p - 1)) (v := nI (p - 2)) dJ6_getChars_ba4f3_57 rfl (by rw [q_m1 (by omega)]; congr 1) rfl ?_
    refine q_iload dJ6_getChars_ba4f3_60 rfl ?_
    refine q_getstatic (v := .ref 36) (by simp [q_zs]) kL_J6_87 rfl dJ6_getChars_ba4f3_62 ?_
    refine q_iload dJ6_getChars_ba4f3_65 rfl ?_
    refine q_taldBN (i := 36) (n := 100) (f := fun j => .int (nI (48 + j / 10))) (j := n % 100) (by decide) dJ6_getChars_ba4f3_67 rfl (by omega) (by decide) ?_
    refine q_bastN (j := p - 2) (z_latN (c := 48 + (n % 100) / 10) (by omega)) dJ6_getChars_ba4f3_68 s1.c0 (by omega) (by omega) ?_
    refine z_genW (B := fun H => z_By H v cap (upd (upd bs (p - 1) (nI (48 + n % 100 % 10))) (p - 2) (nI (48 + (n % 100) / 10))) ∧ q_same h H v 1) ⟨z_By.put0 s1, p1.trans (q_same.set (by omega) (by omega))⟩ (fun h2 hB => ?_)
    obtain ⟨s2, p2⟩ := hB
    refine q_goto 22 dJ6_getChars_ba4f3_69 (by decide) ?_
    refine l_getChars2 (m := n / 100) (by omega) (by omega) (fun _ => by split at hp <;> omega) hp2 s2 p2 (fun h3 t p3 => ⟨?_, ?_, p3⟩)
    · rw [z_dg hn, if_neg hb]
      split <;> rfl
    · unfold x_gc
      rw [if_neg hb]
      exact t
theorem z_gc_out {n p j : Nat} {bs : Nat → Int32} (hn : n < 10000) (hp : sb_dg n ≤ p) (hj : j < p - sb_dg n ∨ p ≤ j) : x_gc n p bs j = bs j := by
  rw [z_dg hn] at hj hp
  unfold x_gc
  split
  · split <;> simp_all <;> rw [pk_un (by omega)] <;> try rw [pk_un (by omega)]
  · dsimp only
    split <;> simp_all <;> rw [pk_un (by omega), pk_un (by omega), pk_un (by omega)] <;> try rw [pk_un (by omega)]
theorem z_gc_in {n p k : Nat} {bs : Nat → Int32} (hn : n < 10000) (hp : sb_dg n ≤ p) (hk : k < sb_dg n) : x_gc n p bs (p - sb_dg n + k) = nI (sb_dec n k) := by
  unfold sb_dec
  rw [z_dg hn] at hk hp ⊢
  unfold x_gc
  split
  · split
    · simp_all
      rw [pk_us]
      all_goals exact congrArg nI (by first | omega | (simp only [Nat.sub_self, Nat.pow_zero, Nat.div_one]; omega))
    · simp_all
      obtain rfl | rfl : k = 0 ∨ k = 1 := by omega
      · rw [show p - 2 + 0 = p - 2 by omega, pk_us]
        all_goals exact congrArg nI (by first | omega | (simp only [Nat.sub_self, Nat.pow_zero, Nat.div_one]; omega))
      · rw [pk_un (by omega), show p - 2 + 1 = p - 1 by omega, pk_us]
        all_goals exact congrArg nI (by first | omega | (simp only [Nat.sub_self, Nat.pow_zero, Nat.div_one]; omega))
  · dsimp only
    split
    · simp_all
      obtain rfl | rfl | rfl : k = 0 ∨ k = 1 ∨ k = 2 := by omega
      · rw [show p - 3 + 0 = p - 3 by omega, pk_us]
        all_goals exact congrArg nI (by first | omega | (simp only [Nat.sub_self, Nat.pow_zero, Nat.div_one]; omega))
      · rw [pk_un (by omega), show p - 3 + 1 = p - 2 by omega, pk_us]
        all_goals exact congrArg nI (by first | omega | (simp only [Nat.sub_self, Nat.pow_zero, Nat.div_one]; omega))
      · rw [pk_un (by omega), pk_un (by omega), show p - 3 + 2 = p - 1 by omega, pk_us]
        all_goals exact congrArg nI (by first | omega | (simp only [Nat.sub_self, Nat.pow_zero, Nat.div_one]; omega))
    · simp_all
      obtain rfl | rfl | rfl | rfl : k = 0 ∨ k = 1 ∨ k = 2 ∨ k = 3 := by omega
      · rw [show p - 4 + 0 = p - 4 by omega, pk_us]
        all_goals exact congrArg nI (by first | omega | (simp only [Nat.sub_self, Nat.pow_zero, Nat.div_one]; omega))
      · rw [pk_un (by omega), show p - 4 + 1 = p - 3 by omega, pk_us]
        all_goals exact congrArg nI (by first | omega | (simp only [Nat.sub_self, Nat.pow_zero, Nat.div_one]; omega))
      · rw [pk_un (by omega), pk_un (by omega), show p - 4 + 2 = p - 2 by omega, pk_us]
        all_goals exact congrArg nI (by first | omega | (simp only [Nat.sub_self, Nat.pow_zero, Nat.div_one]; omega))
      · rw [pk_un (by omega), pk_un (by omega), pk_un (by omega), show p - 4 + 3 = p - 1 by omega, pk_us]
        all_goals exact congrArg nI (by first | omega | (simp only [Nat.sub_self, Nat.pow_zero, Nat.div_one]; omega))
theorem z_dec_lat (n k : Nat) : z_lat (nI (sb_dec n k)) := z_latN (by unfold sb_dec; omega)
/-- a text with the digits of n behind it -/
def x_num (f : Nat → Int32) (cn n : Nat) : Nat → Int32 := fun j => if j < cn then f j else nI (sb_dec n (j - cn))
theorem e_appI5 {g : q_G} {h : q_H} {d b cn v n : Nat} {f : Nat → Int32} (s : z_Sb h b cn f v) (hn : n < 10000) (hcn : cn + sb_dg n ≤ 142) (hd : 5 ≤ d) : q_Spec g mJ5_append_c97b9 d 1 286 [.ref b, .int (nI n)] h
    (q_chg (.inl (some (.ref b))) (fun h1 => ∃ v', z_Sb h1 b (cn + sb_dg n) (x_num f cn n) v' ∧ (v' = v ∨ h.1 ≤ v') ∧ q_two h h1 b v)) := by
  obtain ⟨ml, cap, bs, s1, s2, hbv, h16, hcc, hnar, hf⟩ := s
  have hr_sb := s1.r0
  have hdg : sb_dg n ≤ 4 := by
    rw [z_dg hn]
    repeat (first | omega | split)
  refine q_enter (by decide +kernel) rfl rfl (Nat.le_of_ble_eq_true rfl) (fun hz => ?_)
  change q_W _ _ _ _ _ _ _ _ _ [.ref b, .int (nI n), q_u, q_u] [] _
  refine q_aload_n (by first | assumption | omega | decide) dJ5_append_c97b9_0 rfl ?_
  refine q_getf (k := 3) (v := .int (nI cn)) kC_J4 kL_J5_79 rfl (by decide) dJ5_append_c97b9_1 s1.c0 rfl ?_
  refine q_istore_n dJ5_append_c97b9_4 (by decide) rfl ?_
  change q_W _ _ _ _ _ _ _ _ _ [.ref b, .int (nI n), .int (nI cn), q_u] [] _
  refine q_iload_n dJ5_append_c97b9_5 rfl ?_
  refine q_iload_n dJ5_append_c97b9_6 rfl ?_
  refine q_invS (mc' := 0) (ms' := 0) (d' := d - 1) (as := [.int (nI n)]) dJ5_append_c97b9_7 kM_J6_stringSize_0f7a4 kL_J5_245 kT_J6_stringSize_0f7a4 rfl rfl rfl (Nat.le_of_ble_eq_true rfl) (by omega) (by decide) (by omega) (by omega) (e_stringSize (d := d - 1) hn (by omega)) (q_kR ?_) q_xR
  change q_W _ _ _ _ _ _ _ _ 10 [.ref b, .int (nI n), .int (nI cn), q_u] [.int (nI (sb_dg n)), .int (nI cn)] _
  refine q_iaddN (a := cn) (b := sb_dg n) dJ5_append_c97b9_10 ?_
  refine q_istore_n dJ5_append_c97b9_11 (by decide) rfl ?_
  change q_W _ _ _ _ _ _ _ _ _ [.ref b, .int (nI n), .int (nI cn), .int (nI (cn + sb_dg n))] [] _
  refine q_aload_n (by first | assumption | omega | decide) dJ5_append_c97b9_12 rfl ?_
  refine q_iload_n dJ5_append_c97b9_13 rfl ?_
  refine q_invV (mc' := 1) (ms' := 286) (d' := d - 1) (as := [.int (nI (cn + sb_dg n))]) dJ5_append_c97b9_14 kM_J5_ensureCapacityInternal_d00df kL_J5_100 kI_J5_ensureCapacityInternal_d00df kS_J5_ensureCapacityInternal_d00df rfl (kC_J4.1) s1.c0 rfl rfl (Nat.le_of_ble_eq_true rfl) (by omega) (by decide) (by omega) (by omega) (e_ensure (d := d - 1) s1 s2 hnar hbv h16 hcn (by omega) (by omega)) (q_kC (fun h1 hB => ?_)) q_xC
  obtain ⟨v', cap', bs', t1, t2, hv', hbv', hq', hcap', hpre, hnar', pp⟩ := hB
  have hr_by := t2.r0
  have hb_by := t2.bcap
  change q_W _ _ _ _ _ _ _ _ 17 [.ref b, .int (nI n), .int (nI cn), .int (nI (cn + sb_dg n))] [] _
  refine q_aload_n (by first | assumption | omega | decide) dJ5_append_c97b9_17 rfl ?_
  refine q_invV (mc' := 0) (ms' := 0) (d' := d - 1) (as := []) dJ5_append_c97b9_18 kM_J5_isLatin1_aae02 kL_J5_83 kI_J5_isLatin1_aae02 kS_J5_isLatin1_aae02 rfl (kC_J4.1) t1.c0 rfl rfl (Nat.le_of_ble_eq_true rfl) (by omega) (by decide) (by omega) (by omega) (e_J5_isLatin1 (d := d - 1) t1 (by omega)) (q_kR ?_) q_xR
  refine q_if_eq 37 dJ5_append_c97b9_21 (by decide) (fun b9 => absurd b9 (by decide)) (fun b9 => ?_)
  change q_W _ _ _ _ _ _ _ _ 24 [.ref b, .int (nI n), .int (nI cn), .int (nI (cn + sb_dg n))] [] _
  refine q_iload_n dJ5_append_c97b9_24 rfl ?_
  refine q_iload_n dJ5_append_c97b9_25 rfl ?_
  refine q_aload_n (by first | assumption | omega | decide) dJ5_append_c97b9_26 rfl ?_
  refine q_getf (k := 0) (v := .ref v') kC_J4 kL_J5_15 rfl (by decide) dJ5_append_c97b9_27 t1.c0 rfl ?_
  refine q_invS (mc' := 0) (ms' := 0) (d' := d - 1) (as := [.int (nI n), .int (nI (cn + sb_dg n)), .ref v']) dJ5_append_c97b9_30 kM_J6_getChars_ba4f3 kL_J5_248 kT_J6_getChars_ba4f3 rfl rfl rfl (Nat.le_of_ble_eq_true rfl) (by omega) (by decide) (by omega) (by omega) (e_getChars (d := d - 1) t2 hn (by omega) (by omega) (by omega)) (q_kC (fun h2 hB => ?_)) q_xC
  obtain ⟨u2, pq⟩ := hB
  have u1 := t1.keep pq (by omega)
  have p2 : q_two h h2 b v := ⟨Nat.le_trans pp.1 pq.1, fun i hi hb hv => (pq.2 i (Nat.lt_of_lt_of_le hi pp.1) (by omega)).trans (pp.2 i hi hb hv)⟩
  change q_W _ _ _ _ _ _ _ _ 33 [.ref b, .int (nI n), .int (nI cn), .int (nI (cn + sb_dg n))] [.int (nI (cn + sb_dg n - sb_dg n))] _
  refine q_pop dJ5_append_c97b9_33 rfl ?_
  refine q_goto 48 dJ5_append_c97b9_34 (by decide) ?_
  refine q_aload_n (by first | assumption | omega | decide) dJ5_append_c97b9_48 rfl ?_
  refine q_iload_n dJ5_append_c97b9_49 rfl ?_
  refine q_putf (k := 3) kC_J4 kL_J5_79 rfl (by decide) rfl dJ5_append_c97b9_50 u1.c0 (Nat.le_of_ble_eq_true rfl) ⟨rfl, rfl⟩ rfl ?_
  refine z_genW (B := fun H => z_Sb1 H b v' ml (cn + sb_dg n) ∧ z_By H v' cap' (x_gc n (cn + sb_dg n) bs') ∧ q_two h H b v) ⟨z_Sb1.put0 u1 (hbcn := by omega), u2.keep (q_same.set (a := b) (k := 1) (Nat.le_refl _) (by omega)) (by omega), p2.put (by omega)⟩ (fun h3 hB => ?_)
  obtain ⟨w1, w2, p3⟩ := hB
  refine q_aload_n (by first | assumption | omega | decide) dJ5_append_c97b9_53 rfl ?_
  have key : ∀ j, (cn ≤ j ∧ j < cn + sb_dg n → x_gc n (cn + sb_dg n) bs' j = nI (sb_dec n (j - cn))) ∧ (¬ (cn ≤ j ∧ j < cn + sb_dg n) → x_gc n (cn + sb_dg n) bs' j = bs' j) := fun j =>
    ⟨fun q => by
      have := z_gc_in (p := cn + sb_dg n) (k := j - cn) (bs := bs') hn (by omega) (by omega)
      rwa [show cn + sb_dg n - sb_dg n + (j - cn) = j by omega] at this, fun q => z_gc_out hn (by omega) (by omega)⟩
  refine q_areturn (by first | assumption | omega | decide) dJ5_append_c97b9_54 rfl (Or.inl ⟨_, rfl⟩) (by omega) (by omega) ⟨rfl, v', ⟨ml, cap', _, w1, w2, hbv', by omega, by omega, fun j hj => ?_, fun j hj => ?_⟩, hv', p3⟩
  · by_cases e : cn ≤ j ∧ j < cn + sb_dg n
    · rw [(key j).1 e]
      exact z_lat_nar (z_dec_lat _ _)
    · rw [(key j).2 e]
      exact hnar' j hj
  · by_cases e : cn ≤ j
    · unfold x_num
      rw [if_neg (by omega), (key j).1 ⟨e, hj⟩]
      exact ⟨z_dec_lat _ _, rfl⟩
    · unfold x_num
      rw [if_pos (by omega), (key j).2 (by omega)]
      obtain ⟨q1, q2⟩ := hf j (by omega)
      exact ⟨q1, (hpre j (by omega)).trans q2⟩
theorem e_appI {g : q_G} {h : q_H} {d b cn v n : Nat} {f : Nat → Int32} (s : z_Sb h b cn f v) (hn : n < 10000) (hcn : cn + sb_dg n ≤ 142) (hd : 6 ≤ d) : q_Spec g mJ4_append_bf812 d 1 286 [.ref b, .int (nI n)] h
    (q_chg (.inl (some (.ref b))) (fun h1 => ∃ v', z_Sb h1 b (cn + sb_dg n) (x_num f cn n) v' ∧ (v' = v ∨ h.1 ≤ v') ∧ q_two h h1 b v)) := by
  have s' := s
  obtain ⟨ml, cap, bs, s1, -⟩ := s'
  have hr_sb := s1.r0
  refine q_enter (by decide +kernel) rfl rfl (Nat.le_of_ble_eq_true rfl) (fun hz => ?_)
  change q_W _ _ _ _ _ _ _ _ _ [.ref b, .int (nI n)] [] _
  refine q_aload_n (by first | assumption | omega | decide) dJ4_append_bf812_0 rfl ?_
  refine q_iload_n dJ4_append_bf812_1 rfl ?_
  refine q_invSU (mc' := 1) (ms' := 286) (d' := d - 1) (as := [.int (nI n)]) dJ4_append_bf812_2 kM_J5_append_c97b9 (by decide) kL_J4_53 kW_1377 kP_J4 kI_J5_append_c97b9 rfl (kC_J4.1) s1.c0 rfl rfl (Nat.le_of_ble_eq_true rfl) (by omega) (by decide) (by omega) (by omega) (e_appI5 (d := d - 1) s hn hcn (by omega)) (q_kC (fun h1 hB => ?_)) q_xC
  change q_W _ _ _ _ _ _ _ _ 5 [.ref b, .int (nI n)] [.ref b] _
  refine q_pop dJ4_append_bf812_5 rfl ?_
  refine q_aload_n (by first | assumption | omega | decide) dJ4_append_bf812_6 rfl ?_
  exact q_areturn (by first | assumption | omega | decide) dJ4_append_bf812_7 rfl (Or.inl ⟨_, rfl⟩) (by omega) (by omega) ⟨rfl, hB⟩
