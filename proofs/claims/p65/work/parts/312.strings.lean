theorem e_newLength2 {g : q_G} {h : q_H} {d cap mg pf : Nat} {x : Nat} (hx : x = if mg < pf then pf else mg) (h2 : pf + cap ≤ 1000) (h4 : mg + cap ≤ 1000) (h3 : 1 ≤ pf) (hd : 1 ≤ d) : q_Spec g mJ8_newLength_cabcc d 0 0 [.int (nI cap), .int (nI mg), .int (nI pf)] h (q_ret (some (.int (nI (cap + x)))) h) := by
  have hx1 : x + cap ≤ 1000 ∧ 1 ≤ x := by
    rw [hx]
    split <;> omega
  refine q_enter (by decide +kernel) rfl rfl (Nat.le_of_ble_eq_true rfl) (fun hz => ?_)
  change q_W _ _ _ _ _ _ _ _ _ [.int (nI cap), .int (nI mg), .int (nI pf), q_u] [] _
  refine q_iload_n dJ8_newLength_cabcc_0 rfl ?_
  refine q_iload_n dJ8_newLength_cabcc_1 rfl ?_
  refine q_iload_n dJ8_newLength_cabcc_2 rfl ?_
  refine q_mmax kL_J8_194 kT_J9_max_7cf53 (kM_J9_max_7cf53.2.2.2.1) rfl dJ8_newLength_cabcc_3 (Nat.le_of_ble_eq_true rfl) (by omega) (by omega) (by omega) ?_
  rw [z_nite (by omega) (by omega), ← hx]
  refine q_iaddN (a := cap) (b := x) dJ8_newLength_cabcc_6 ?_
  refine q_istore_n dJ8_newLength_cabcc_7 (by decide) rfl ?_
  change q_W _ _ _ _ _ _ _ _ _ [.int (nI cap), .int (nI mg), .int (nI pf), .int (nI (cap + x))] [] _
  refine q_iconst (v := 0) dJ8_newLength_cabcc_8 rfl ?_
  refine q_iload_n dJ8_newLength_cabcc_9 rfl ?_
  refine q_icmp_ge 21 dJ8_newLength_cabcc_10 (by decide) (fun b => absurd ((nI_leI (a := cap + x) (b := 0) (by omega) (by omega)).mp b) (by omega)) (fun b => ?_)
  refine q_iload_n dJ8_newLength_cabcc_13 rfl ?_
  refine q_ldc kL_J8_200 rfl dJ8_newLength_cabcc_14 ?_
  refine q_icmp_gt 21 dJ8_newLength_cabcc_16 (by decide) (fun b => absurd ((nI_ltI (a := 2147483639) (b := cap + x) (by omega) (by omega)).mp b) (by omega)) (fun b => ?_)
  refine q_iload_n dJ8_newLength_cabcc_19 rfl ?_
  exact q_ireturn dJ8_newLength_cabcc_20 rfl rfl (by omega) (by omega) ⟨rfl, rfl⟩
theorem e_newCap2 {g : q_G} {h : q_H} {d b v cn cap q : Nat} {ml : Int32} {bs : Nat → Int32} (ssb : z_Sb1 h b v ml cn) (sby : z_By h v cap bs) (hq : cap ≤ q) {x : Nat} (hx : x = if q - cap < cap + 2 then cap + 2 else q - cap) (hq2 : q ≤ 142) (hc : cap ≤ 286) (hd : 2 ≤ d) : q_Spec g mJ5_newCapacity_0f7a4 d 0 0 [.ref b, .int (nI q)] h (q_ret (some (.int (nI (cap + x)))) h) := by
  have hx1 : x + cap ≤ 1000 ∧ 1 ≤ x := by
    rw [hx]
    split <;> omega
  have hr_sb := ssb.r0
  have hr_by := sby.r0
  refine q_enter (by decide +kernel) rfl rfl (Nat.le_of_ble_eq_true rfl) (fun hz => ?_)
  change q_W _ _ _ _ _ _ _ _ _ [.ref b, .int (nI q), q_u, q_u, q_u, q_u] [] _
  refine q_aload_n (by first | assumption | omega | decide) dJ5_newCapacity_0f7a4_0 rfl ?_
  refine q_getf (k := 0) (v := .ref v) kC_J4 kL_J5_15 rfl (by decide) dJ5_newCapacity_0f7a4_1 ssb.c0 rfl ?_
  refine q_alenI rfl dJ5_newCapacity_0f7a4_4 sby.c0 ?_
  change q_W _ _ _ _ _ _ _ _ _ _ [.int (nI cap)] _
  refine q_istore_n dJ5_newCapacity_0f7a4_5 (by decide) rfl ?_
  change q_W _ _ _ _ _ _ _ _ _ [.ref b, .int (nI q), .int (nI cap), q_u, q_u, q_u] [] _
  refine q_iload_n dJ5_newCapacity_0f7a4_6 rfl ?_
  refine q_aload_n (by first | assumption | omega | decide) dJ5_newCapacity_0f7a4_7 rfl ?_
  refine q_getf (k := 1) (v := .int 0) kC_J4 kL_J5_22 rfl (by decide) dJ5_newCapacity_0f7a4_8 ssb.c0 rfl ?_
  refine q_ishl0 dJ5_newCapacity_0f7a4_11 ?_
  refine q_istore_n dJ5_newCapacity_0f7a4_12 (by decide) rfl ?_
  change q_W _ _ _ _ _ _ _ _ _ [.ref b, .int (nI q), .int (nI cap), .int (nI q), q_u, q_u] [] _
  refine q_iload_n dJ5_newCapacity_0f7a4_13 rfl ?_
  refine q_iload_n dJ5_newCapacity_0f7a4_14 rfl ?_
  refine q_isubN (a := q) (b := cap) (by omega) dJ5_newCapacity_0f7a4_15 ?_
  refine q_istore dJ5_newCapacity_0f7a4_16 (by decide) rfl ?_
  change q_W _ _ _ _ _ _ _ _ _ [.ref b, .int (nI q), .int (nI cap), .int (nI q), .int (nI (q - cap)), q_u] [] _
  refine q_iload_n dJ5_newCapacity_0f7a4_18 rfl ?_
  refine q_iload dJ5_newCapacity_0f7a4_19 rfl ?_
  refine q_iload_n dJ5_newCapacity_0f7a4_21 rfl ?_
  refine q_iconst (v := 2) dJ5_newCapacity_0f7a4_22 rfl ?_
  refine q_aload_n (by first | assumption | omega | decide) dJ5_newCapacity_0f7a4_23 rfl ?_
  refine q_getf (k := 1) (v := .int 0) kC_J4 kL_J5_22 rfl (by decide) dJ5_newCapacity_0f7a4_24 ssb.c0 rfl ?_
  refine q_ishl0 dJ5_newCapacity_0f7a4_27 ?_
  refine q_iaddN (a := cap) (b := 2) dJ5_newCapacity_0f7a4_28 ?_
  refine q_invS (mc' := 0) (ms' := 0) (d' := d - 1) (as := [.int (nI cap), .int (nI (q - cap)), .int (nI (cap + 2))]) dJ5_newCapacity_0f7a4_29 kM_J8_newLength_cabcc kL_J5_114 kT_J8_newLength_cabcc rfl rfl rfl (Nat.le_of_ble_eq_true rfl) (by omega) (by decide) (by omega) (by omega) (e_newLength2 (d := d - 1) hx (by omega) (by omega) (by omega) (by omega)) (q_kR ?_) q_xR
  change q_W _ _ _ _ _ _ _ _ 32 [.ref b, .int (nI q), .int (nI cap), .int (nI q), .int (nI (q - cap)), q_u] [.int (nI (cap + x))] _
  refine q_istore dJ5_newCapacity_0f7a4_32 (by decide) rfl ?_
  change q_W _ _ _ _ _ _ _ _ _ [.ref b, .int (nI q), .int (nI cap), .int (nI q), .int (nI (q - cap)), .int (nI (cap + x))] [] _
  refine q_iload dJ5_newCapacity_0f7a4_34 rfl ?_
  refine q_ldc kL_J5_39 rfl dJ5_newCapacity_0f7a4_36 ?_
  refine q_icmp_ne 51 dJ5_newCapacity_0f7a4_38 (by decide) (fun b => ?_) (fun b => absurd ((nI_eq (a := cap + x) (b := 2147483647) (by omega) (by omega)).mp b) (by omega))
  refine q_iload dJ5_newCapacity_0f7a4_51 rfl ?_
  refine q_aload_n (by first | assumption | omega | decide) dJ5_newCapacity_0f7a4_53 rfl ?_
  refine q_getf (k := 1) (v := .int 0) kC_J4 kL_J5_22 rfl (by decide) dJ5_newCapacity_0f7a4_54 ssb.c0 rfl ?_
  refine q_ishr0 dJ5_newCapacity_0f7a4_57 ?_
  exact q_ireturn dJ5_newCapacity_0f7a4_58 rfl rfl (by omega) (by omega) ⟨rfl, rfl⟩
theorem e_ensure2 {g : q_G} {h : q_H} {d b v cn cap q : Nat} {ml : Int32} {bs : Nat → Int32} (ssb : z_Sb1 h b v ml cn) (sby : z_By h v cap bs) (hl : ∀ j, j < cap → vp_nar .byte (bs j) = bs j) (hbv : b ≠ v) (h16 : 16 ≤ cap) (hq : q ≤ 142) (hd : 4 ≤ d) : q_Spec g mJ5_ensureCapacityInternal_d00df d 1 286 [.ref b, .int (nI q)] h
    (q_chg (.inl none) (fun h1 => ∃ (v' cap' : Nat) (bs' : Nat → Int32), z_Sb1 h1 b v' ml cn ∧ z_By h1 v' cap' bs' ∧ (v' = v ∨ h.1 ≤ v') ∧ b ≠ v' ∧ q ≤ cap' ∧ cap ≤ cap' ∧ (∀ j, j < cap → bs' j = bs j) ∧ (∀ j, j < cap' → vp_nar .byte (bs' j) = bs' j) ∧ q_two h h1 b v)) := by
  obtain ⟨x, hx⟩ : ∃ x, x = if q - cap < cap + 2 then cap + 2 else q - cap := ⟨_, rfl⟩
  have hr_sb := ssb.r0
  have hr_by := sby.r0
  have hs_sb := ssb.s0
  have hs_by := sby.s0
  have hb_cap := sby.bcap
  refine q_enter (by decide +kernel) rfl rfl (Nat.le_of_ble_eq_true rfl) (fun hz => ?_)
  change q_W _ _ _ _ _ _ _ _ _ [.ref b, .int (nI q), q_u] [] _
  refine q_aload_n (by first | assumption | omega | decide) dJ5_ensureCapacityInternal_d00df_0 rfl ?_
  refine q_getf (k := 0) (v := .ref v) kC_J4 kL_J5_15 rfl (by decide) dJ5_ensureCapacityInternal_d00df_1 ssb.c0 rfl ?_
  refine q_alenI rfl dJ5_ensureCapacityInternal_d00df_4 sby.c0 ?_
  change q_W _ _ _ _ _ _ _ _ _ _ [.int (nI cap)] _
  refine q_aload_n (by first | assumption | omega | decide) dJ5_ensureCapacityInternal_d00df_5 rfl ?_
  refine q_getf (k := 1) (v := .int 0) kC_J4 kL_J5_22 rfl (by decide) dJ5_ensureCapacityInternal_d00df_6 ssb.c0 rfl ?_
  refine q_ishr0 dJ5_ensureCapacityInternal_d00df_9 ?_
  refine q_istore_n dJ5_ensureCapacityInternal_d00df_10 (by decide) rfl ?_
  change q_W _ _ _ _ _ _ _ _ _ [.ref b, .int (nI q), .int (nI cap)] [] _
  refine q_iload_n dJ5_ensureCapacityInternal_d00df_11 rfl ?_
  refine q_iload_n dJ5_ensureCapacityInternal_d00df_12 rfl ?_
  refine q_isub dJ5_ensureCapacityInternal_d00df_13 ?_
  have e1 : (nI q - nI cap).toInt = (q : Int) - cap := pk_sub_toInt (by omega) (by omega)
  have e0 : (0 : Int32).toInt = 0 := by decide
  refine q_if_le 38 dJ5_ensureCapacityInternal_d00df_14 (by decide) (fun c9 => ?_) (fun c9 => ?_)
  · rw [Int32.le_iff_toInt_le, e1, e0] at c9
    exact q_return dJ5_ensureCapacityInternal_d00df_38 rfl (by omega) (by omega) ⟨rfl, v, cap, bs, ssb, sby, Or.inl rfl, hbv, by omega, Nat.le_refl _, fun _ _ => rfl, hl, q_two.rfl'⟩
  · rw [Int32.le_iff_toInt_le, e1, e0] at c9
    have hx1 : cap + x ≤ 286 ∧ q ≤ cap + x ∧ cap < cap + x := by
      rw [hx]
      split <;> omega
    refine q_aload_n (by first | assumption | omega | decide) dJ5_ensureCapacityInternal_d00df_17 rfl ?_
    refine q_aload_n (by first | assumption | omega | decide) dJ5_ensureCapacityInternal_d00df_18 rfl ?_
    refine q_getf (k := 0) (v := .ref v) kC_J4 kL_J5_15 rfl (by decide) dJ5_ensureCapacityInternal_d00df_19 ssb.c0 rfl ?_
    refine q_aload_n (by first | assumption | omega | decide) dJ5_ensureCapacityInternal_d00df_22 rfl ?_
    refine q_iload_n dJ5_ensureCapacityInternal_d00df_23 rfl ?_
    refine q_invV (mc' := 0) (ms' := 0) (d' := d - 1) (as := [.int (nI q)]) dJ5_ensureCapacityInternal_d00df_24 kM_J5_newCapacity_0f7a4 kL_J5_104 kI_J5_newCapacity_0f7a4 kS_J5_newCapacity_0f7a4 rfl (kC_J4.1) ssb.c0 rfl rfl (Nat.le_of_ble_eq_true rfl) (by omega) (by decide) (by omega) (by omega) (e_newCap2 (d := d - 1) ssb sby (by omega) hx (by omega) (by omega) (by omega)) (q_kR ?_) q_xR
    change q_W _ _ _ _ _ _ _ _ 27 [.ref b, .int (nI q), .int (nI cap)] [.int (nI (cap + x)), .ref v, .ref b] _
    refine q_aload_n (by first | assumption | omega | decide) dJ5_ensureCapacityInternal_d00df_27 rfl ?_
    refine q_getf (k := 1) (v := .int 0) kC_J4 kL_J5_22 rfl (by decide) dJ5_ensureCapacityInternal_d00df_28 ssb.c0 rfl ?_
    refine q_ishl0 dJ5_ensureCapacityInternal_d00df_31 ?_
    refine q_invS (mc' := 1) (ms' := 286) (d' := d - 1) (as := [.ref v, .int (nI (cap + x))]) dJ5_ensureCapacityInternal_d00df_32 kM_J7_copyOf_9075b kL_J5_108 kT_J7_copyOf_9075b rfl rfl rfl (Nat.le_of_ble_eq_true rfl) (by omega) (by decide) (by omega) (by omega) (e_copyOfB (d := d - 1) sby hl (by omega) (by omega) (by omega)) (q_kC (fun h1 hB => ?_)) q_xC
    obtain ⟨sy, hn1, ho⟩ := hB
    change q_W _ _ _ _ _ _ _ _ 35 [.ref b, .int (nI q), .int (nI cap)] [.ref h.1, .ref b] _
    have hcb : h1.2 b = some (.inr (1, [.ref v, .int 0, .int ml, .int (nI cn)])) := (ho b (by omega)).trans ssb.c0
    refine q_putf (k := 0) kC_J4 kL_J5_15 rfl (by decide) rfl dJ5_ensureCapacityInternal_d00df_35 hcb (Nat.le_of_ble_eq_true rfl) ⟨rfl, rfl⟩ rfl ?_
    refine q_return dJ5_ensureCapacityInternal_d00df_38 rfl (by omega) (by omega) ⟨rfl, h.1, cap + x, _, ⟨hr_sb, ?_, ssb.bcn, q_set_eq⟩, sy.keep (q_same.set (a := b) (k := 1) (Nat.le_refl _) (by omega)) (by omega), Or.inr (Nat.le_refl _), by omega, by omega, by omega, fun j hj => ?_, fun j hj => ?_, ?_, fun i hi hb hv => ?_⟩
    · show b + 1 ≤ h1.1
      omega
    · rw [pk_cpy_in (by omega) (by omega)]
      congr 1
      omega
    · by_cases hj2 : j < cap
      · rw [pk_cpy_in (by omega) (by omega)]
        exact hl _ (by omega)
      · rw [pk_cpy_out (by omega)]
        exact z_lat_nar (z_latN (c := 0) (by omega))
    · show h.1 ≤ h1.1
      omega
    · simp only [q_set]
      rw [if_neg hb]
      exact ho i hi
/-! Strings -/
theorem z_patlat0 : ∀ k, k < 11 → ∀ j, j < 1 → j < (q_pat k).length → ∃ c : Nat, c < 128 ∧ (q_pat k).getD j 0 = nI c := by decide +kernel
theorem z_patlen1 : ∀ k, k < 11 → (q_pat k).length ≤ 1 := by decide +kernel
theorem z_patlat {k j : Nat} (hk : k < 11) (hj : j < (q_pat k).length) : z_lat ((q_pat k).getD j 0) := z_patlat0 k hk j (by have := z_patlen1 k hk; omega) hj
/-- a String of n characters f, its bytes at v: one of the constants, or made -/
def z_Str (h : q_H) (r v n : Nat) (f : Nat → Int32) : Prop :=
  n ≤ 142 ∧ (∀ j, j < n → z_lat (f j)) ∧ ((∃ k, k < 11 ∧ r = 14 + k ∧ v = 25 + k ∧ n = (q_pat k).length ∧ ∀ j, j < n → f j = (q_pat k).getD j 0) ∨
    (q_R0 ≤ r ∧ r + 1 ≤ h.1 ∧ r ≠ v ∧ h.2 r = some (.inr (0, [.ref v, .int 0, .int 0, .int 0])) ∧ ∃ bs : Nat → Int32, z_By h v n bs ∧ ∀ j, j < n → bs j = f j))
theorem z_Str.lat {h : q_H} {r v n j : Nat} {f : Nat → Int32} (z : z_Str h r v n f) (hj : j < n) : z_lat (f j) := z.2.1 j hj
theorem z_Str.le {h : q_H} {r v n : Nat} {f : Nat → Int32} (z : z_Str h r v n f) : n ≤ 142 := z.1
theorem z_Str.isS {h : q_H} {r v n : Nat} {f : Nat → Int32} (z : z_Str h r v n f) : q_isS h r := by
  obtain ⟨-, -, ⟨k, hk, e, -⟩ | ⟨a, -, -, b, -⟩⟩ := z
  · exact Or.inl ⟨k, hk, e⟩
  · exact Or.inr ⟨a, _, b⟩
theorem z_const {h : q_H} {k : Nat} (hk : k < 11) : z_Str h (14 + k) (25 + k) (q_pat k).length (fun j => (q_pat k).getD j 0) :=
  ⟨Nat.le_trans (z_patlen k) (by decide), fun j hj => z_patlat hk hj, Or.inl ⟨k, hk, rfl, rfl, rfl, fun _ _ => rfl⟩⟩
theorem z_Str.two {h h1 : q_H} {r v n b w : Nat} {f : Nat → Int32} (z : z_Str h r v n f) (q : q_two h h1 b w) (hx : r ≠ b ∧ r ≠ w ∧ v ≠ b ∧ v ≠ w) : z_Str h1 r v n f := by
  obtain ⟨z1, z2, z3 | ⟨a, s0, rv, c0, bs, by1, hb⟩⟩ := z
  · exact ⟨z1, z2, Or.inl z3⟩
  · exact ⟨z1, z2, Or.inr ⟨a, Nat.le_trans s0 q.1, rv, (q.2 _ (by omega) hx.1 hx.2.1).trans c0, bs, by1.keep2 q hx.2.2.1 hx.2.2.2, hb⟩⟩
theorem z_255 : ∀ c, c < 128 → ((nI c &&& (255 : Int32)).toUInt32 % 65536).toInt32 = nI c := by decide +kernel
theorem z_255l {x : Int32} (hx : z_lat x) : ((x &&& (255 : Int32)).toUInt32 % 65536).toInt32 = x := by
  obtain ⟨c, hc, rfl⟩ := hx
  exact z_255 c hc
section STRS
variable {g : q_G} {h : q_H} {d r v n : Nat} {f : Nat → Int32}
theorem e_Scoder (z : z_Str h r v n f) (hd : 0 ≤ d) : q_Spec g mJ0_coder_7d493 d 0 0 [.ref r] h (q_ret (some (.int (nI 0))) h) := by
  obtain ⟨-, -, ⟨k, hk, rfl, -⟩ | ⟨hr, s0, -, hc, -⟩⟩ := z
  · exact e_J0_coder k hk hd
  · refine q_enter (by decide +kernel) rfl rfl (Nat.le_of_ble_eq_true rfl) (fun hz => ?_)
    change q_W _ _ _ _ _ _ _ _ _ [.ref r] [] _
    refine q_getstatic (v := .int (1)) (by simp [q_zs]) kL_J0_38 rfl dJ0_coder_7d493_0 ?_
    change q_W _ _ _ _ _ _ _ _ 3 [.ref r] [.int (1)] _
    refine q_if_eq 13 dJ0_coder_7d493_3 (by decide) (fun b3 => absurd b3 (by decide)) (fun b3 => ?_)
    refine q_aload_n hr dJ0_coder_7d493_6 rfl ?_
    refine q_getf (k := 1) (v := .int 0) kC_J0 kL_J0_15 rfl (by decide) dJ0_coder_7d493_7 hc rfl ?_
    refine q_goto 14 dJ0_coder_7d493_10 (by decide) ?_
    exact q_ireturn dJ0_coder_7d493_14 rfl rfl (by omega) (by omega) ⟨rfl, rfl⟩
theorem e_SisLatin1 (z : z_Str h r v n f) (hd : 0 ≤ d) : q_Spec g mJ0_isLatin1_aae02 d 0 0 [.ref r] h (q_ret (some (.int 1)) h) := by
  obtain ⟨-, -, ⟨k, hk, rfl, -⟩ | ⟨hr, s0, -, hc, -⟩⟩ := z
  · exact e_J0_isLatin1 k hk hd
  · refine q_enter (by decide +kernel) rfl rfl (Nat.le_of_ble_eq_true rfl) (fun hz => ?_)
    change q_W _ _ _ _ _ _ _ _ _ [.ref r] [] _
    refine q_getstatic (v := .int (1)) (by simp [q_zs]) kL_J0_38 rfl dJ0_isLatin1_aae02_0 ?_
    change q_W _ _ _ _ _ _ _ _ 3 [.ref r] [.int (1)] _
    refine q_if_eq 17 dJ0_isLatin1_aae02_3 (by decide) (fun b3 => absurd b3 (by decide)) (fun b3 => ?_)
    refine q_aload_n hr dJ0_isLatin1_aae02_6 rfl ?_
    refine q_getf (k := 1) (v := .int 0) kC_J0 kL_J0_15 rfl (by decide) dJ0_isLatin1_aae02_7 hc rfl ?_
    refine q_if_ne 17 dJ0_isLatin1_aae02_10 (by decide) (fun b => absurd (by decide) b) (fun b => ?_)
    refine q_iconst (v := 1) dJ0_isLatin1_aae02_13 rfl ?_
    refine q_goto 18 dJ0_isLatin1_aae02_14 (by decide) ?_
    exact q_ireturn dJ0_isLatin1_aae02_18 rfl rfl (by omega) (by omega) ⟨rfl, rfl⟩
theorem e_Slen (z : z_Str h r v n f) (hd : 1 ≤ d) : q_Spec g mJ0_length_8abf5 d 0 0 [.ref r] h (q_ret (some (.int (nI n))) h) := by
  have zS := z.isS
  have z0 := z
  obtain ⟨-, -, ⟨k, hk, rfl, -, rfl, -⟩ | ⟨hr, s0, -, hc, bs, hby, -⟩⟩ := z
  · exact e_J0_length k hk hd
  · refine q_enter (by decide +kernel) rfl rfl (Nat.le_of_ble_eq_true rfl) (fun hz => ?_)
    change q_W _ _ _ _ _ _ _ _ _ [.ref r] [] _
    refine q_aload_n hr dJ0_length_8abf5_0 rfl ?_
    refine q_getf (k := 0) (v := .ref v) kC_J0 kL_J0_9 rfl (by decide) dJ0_length_8abf5_1 hc rfl ?_
    refine q_alenI rfl dJ0_length_8abf5_4 hby.c0 ?_
    change q_W _ _ _ _ _ _ _ _ 5 [.ref r] [.int (nI n)] _
    refine q_aload_n hr dJ0_length_8abf5_5 rfl ?_
    refine q_invStr zS (mc' := 0) (ms' := 0) (d' := d - 1) (as := []) dJ0_length_8abf5_6 kM_J0_coder_7d493 kL_J0_335 kI_J0_coder_7d493 kS_J0_coder_7d493 rfl rfl rfl (Nat.le_of_ble_eq_true rfl) (by omega) (by decide) (by omega) (by omega) (e_Scoder (d := d - 1) z0 (by omega)) (q_kR ?_) q_xR
    change q_W _ _ _ _ _ _ _ _ 9 [.ref r] [.int (0), .int (nI n)] _
    refine q_ishr0 dJ0_length_8abf5_9 ?_
    exact q_ireturn dJ0_length_8abf5_10 rfl rfl (by omega) (by omega) ⟨rfl, rfl⟩
/-- a byte of a row of ours, as a character -/
theorem e_B1charAt {bs : Nat → Int32} {j : Nat} (hby : z_By h v n bs) (hj : j < n) (hl : z_lat (bs j)) (hd : 2 ≤ d) : q_Spec g mJ1_charAt_3b067 d 0 0 [.ref v, .int (nI j)] h (q_ret (some (.int (bs j))) h) := by
  have hr := hby.r0
  have hcap := hby.bcap
  refine q_enter (by decide +kernel) rfl rfl (Nat.le_of_ble_eq_true rfl) (fun hz => ?_)
  change q_W _ _ _ _ _ _ _ _ _ [.ref v, .int (nI j)] [] _
  refine q_iload_n dJ1_charAt_3b067_0 rfl ?_
  refine q_aload_n hr dJ1_charAt_3b067_1 rfl ?_
  refine q_alenI rfl dJ1_charAt_3b067_2 hby.c0 ?_
  change q_W _ _ _ _ _ _ _ _ 3 [.ref v, .int (nI j)] [.int (nI n), .int (nI j)] _
  refine q_invS (mc' := 0) (ms' := 0) (d' := d - 1) (as := [.int (nI j), .int (nI n)]) dJ1_charAt_3b067_3 kM_J0_checkIndex_df160 kL_J1_9 kT_J0_checkIndex_df160 rfl rfl rfl (Nat.le_of_ble_eq_true rfl) (by omega) (by decide) (by omega) (by omega) (e_chk0 (d := d - 1) (i := j) (n := n) (by omega) (by omega) (by omega)) (q_kR ?_) q_xR
  change q_W _ _ _ _ _ _ _ _ 6 [.ref v, .int (nI j)] [] _
  refine q_aload_n hr dJ1_charAt_3b067_6 rfl ?_
  refine q_iload_n dJ1_charAt_3b067_7 rfl ?_
  refine q_baldN (j := j) (f := bs) dJ1_charAt_3b067_8 hby.c0 hj (by omega) ?_
  refine q_sipush (v := 255) dJ1_charAt_3b067_9 rfl ?_
  refine q_iand dJ1_charAt_3b067_12 ?_
  refine q_i2c dJ1_charAt_3b067_13 (z_255l hl) ?_
  exact q_ireturn dJ1_charAt_3b067_14 rfl (by have e := pk_nc (bs j &&& 255); rw [z_255l hl] at e; exact e) (by omega) (by omega) ⟨rfl, rfl⟩
theorem e_ScharAt {j : Nat} (z : z_Str h r v n f) (hj : j < n) (hd : 3 ≤ d) : q_Spec g mJ0_charAt_5068e d 0 0 [.ref r, .int (nI j)] h (q_ret (some (.int (f j))) h) := by
  have zS := z.isS
  have z0 := z
  obtain ⟨-, hl, ⟨k, hk, rfl, -, rfl, hf⟩ | ⟨hr, s0, -, hc, bs, hby, hb⟩⟩ := z
  · have e := e_J0_charAt (g := g) (h := h) k j hk (z_patlen k) hj hd
    have e2 : x_J0_charAt k j = f j := by
      unfold x_J0_charAt x_J1_charAt
      rw [z_255l (z_patlat hk hj), hf j hj]
    rw [e2] at e
    exact e
  · have hl2 : z_lat (bs j) := by rw [hb j hj]; exact hl j hj
    refine q_enter (by decide +kernel) rfl rfl (Nat.le_of_ble_eq_true rfl) (fun hz => ?_)
    change q_W _ _ _ _ _ _ _ _ _ [.ref r, .int (nI j)] [] _
    refine q_aload_n hr dJ0_charAt_5068e_0 rfl ?_
    refine q_invStr zS (mc' := 0) (ms' := 0) (d' := d - 1) (as := []) dJ0_charAt_5068e_1 kM_J0_isLatin1_aae02 kL_J0_492 kI_J0_isLatin1_aae02 kS_J0_isLatin1_aae02 rfl rfl rfl (Nat.le_of_ble_eq_true rfl) (by omega) (by decide) (by omega) (by omega) (e_SisLatin1 (d := d - 1) z0 (by omega)) (q_kR ?_) q_xR
    change q_W _ _ _ _ _ _ _ _ 4 [.ref r, .int (nI j)] [.int (1)] _
    refine q_if_eq 16 dJ0_charAt_5068e_4 (by decide) (fun b4 => absurd b4 (by decide)) (fun b4 => ?_)
    refine q_aload_n hr dJ0_charAt_5068e_7 rfl ?_
    refine q_getf (k := 0) (v := .ref v) kC_J0 kL_J0_9 rfl (by decide) dJ0_charAt_5068e_8 hc rfl ?_
    refine q_iload_n dJ0_charAt_5068e_11 rfl ?_
    refine q_invS (mc' := 0) (ms' := 0) (d' := d - 1) (as := [.ref v, .int (nI j)]) dJ0_charAt_5068e_12 kM_J1_charAt_3b067 kL_J0_495 kT_J1_charAt_3b067 rfl rfl rfl (Nat.le_of_ble_eq_true rfl) (by omega) (by decide) (by omega) (by omega) (e_B1charAt (d := d - 1) hby hj hl2 (by omega)) (q_kR ?_) q_xR
    change q_W _ _ _ _ _ _ _ _ 15 [.ref r, .int (nI j)] [.int (bs j)] _
    rw [hb j hj] at hl2 ⊢
    exact q_ireturn dJ0_charAt_5068e_15 rfl (by have e := pk_nc (f j &&& 255); rw [z_255l hl2] at e; exact e) (by omega) (by omega) ⟨rfl, rfl⟩
/-- getBytes into a row of ours -/
theorem e_SgetBytes {w cap p : Nat} {bd : Nat → Int32} (z : z_Str h r v n f) (hw : z_By h w cap bd) (hp : p + n ≤ cap) (hd : 2 ≤ d) : q_Spec g mJ0_getBytes_840e7 d 0 0 [.ref r, .ref w, .int (nI p), .int 0] h
    (q_chg (.inl none) (fun h1 => ∃ src : Nat → Int32, (∀ j, j < n → src j = f j) ∧ h1 = q_set h w (.inl (3, cap, .inl (va_cpy src bd 0 p n))))) := by
  have zS := z.isS
  have z0 := z
  have hrw := hw.r0
  have hcap := hw.bcap
  have hlo := zS.lo
  have fitl : ∀ x : Int32, z_lat x → fits .byte (.int x) = true := fun x hx => by
    have := z_lat_nar hx
    rw [← this, vp_nar_byte]
    exact pk_fb _
  refine q_enter (by decide +kernel) rfl rfl (Nat.le_of_ble_eq_true rfl) (fun hz => ?_)
  change q_W _ _ _ _ _ _ _ _ _ [.ref r, .ref w, .int (nI p), .int 0] [] _
  refine q_aload_nS hlo dJ0_getBytes_840e7_0 rfl ?_
  refine q_invStr zS (mc' := 0) (ms' := 0) (d' := d - 1) (as := []) dJ0_getBytes_840e7_1 kM_J0_coder_7d493 kL_J0_335 kI_J0_coder_7d493 kS_J0_coder_7d493 rfl rfl rfl (Nat.le_of_ble_eq_true rfl) (by omega) (by decide) (by omega) (by omega) (e_Scoder (d := d - 1) z0 (by omega)) (q_kR ?_) q_xR
  change q_W _ _ _ _ _ _ _ _ 4 [.ref r, .ref w, .int (nI p), .int 0] [.int 0] _
  refine q_iload_n dJ0_getBytes_840e7_4 rfl ?_
  refine q_icmp_ne 28 dJ0_getBytes_840e7_5 (by decide) (fun b => absurd rfl b) (fun b => ?_)
  refine q_aload_nS hlo dJ0_getBytes_840e7_8 rfl ?_
  obtain ⟨-, hl, ⟨k, hk, rfl, -, rfl, hf⟩ | ⟨hr, s0, -, hc, bs, hby, hb⟩⟩ := z
  · refine q_getold (i := 14 + k) (v := .ref (25 + k)) (by rw [q_R0e]; omega) kL_J0_9 rfl (q_valueF (k := k) (by omega)) dJ0_getBytes_840e7_9 ?_
    change q_W _ _ _ _ _ _ _ _ 12 [.ref (14 + k), .ref w, .int (nI p), .int 0] [.ref (25 + k)] _
    refine q_iconst (v := 0) dJ0_getBytes_840e7_12 rfl ?_
    refine q_aload_n hrw dJ0_getBytes_840e7_13 rfl ?_
    refine q_iload_n dJ0_getBytes_840e7_14 rfl ?_
    refine q_iload_n dJ0_getBytes_840e7_15 rfl ?_
    refine q_ishl0 dJ0_getBytes_840e7_16 ?_
    refine q_aload_nS hlo dJ0_getBytes_840e7_17 rfl ?_
    refine q_getold (i := 14 + k) (v := .ref (25 + k)) (by rw [q_R0e]; omega) kL_J0_9 rfl (q_valueF (k := k) (by omega)) dJ0_getBytes_840e7_18 ?_
    change q_W _ _ _ _ _ _ _ _ 21 [.ref (14 + k), .ref w, .int (nI p), .int 0] [.ref (25 + k), .int (nI p), .ref w, .int 0, .ref (25 + k)] _
    refine q_tlenP (k := k) (by omega) dJ0_getBytes_840e7_21 ?_
    have hpl := z_patlen k
    refine q_copyO (sp := 0) (dp := nI p) (n := nI (q_pat k).length) kL_J0_212 kO_3 kO_4 kJ_J10 rfl (by rw [q_R0e]; omega) (q_arP hk) hw.c0 (by decide) (nI_pos (by omega)) (nI_pos (by omega)) (by rw [nI_clamp (by omega)]; show 0 + _ ≤ _; omega) (by rw [nI_clamp (by omega), nI_clamp (by omega)]; exact hp) (fun j hj => ?_) (Nat.le_of_ble_eq_true rfl) (by omega) dJ0_getBytes_840e7_22 ?_
    · rw [nI_clamp (by omega)] at hj
      have e9 : (0 : Int32).toNatClampNeg + j = j := by show 0 + j = j; omega
      rw [e9]
      exact fitl _ (z_patlat hk hj)
    rw [nI_clamp (by omega), nI_clamp (by omega)]
    refine q_goto 43 dJ0_getBytes_840e7_25 (by decide) ?_
    exact q_return dJ0_getBytes_840e7_43 rfl (by omega) (by omega) ⟨rfl, fun j => (q_pat k).getD j 0, fun j hj => (hf j hj).symm, rfl⟩
  · refine q_getf (k := 0) (v := .ref v) kC_J0 kL_J0_9 rfl (by decide) dJ0_getBytes_840e7_9 hc rfl ?_
    refine q_iconst (v := 0) dJ0_getBytes_840e7_12 rfl ?_
    refine q_aload_n hrw dJ0_getBytes_840e7_13 rfl ?_
    refine q_iload_n dJ0_getBytes_840e7_14 rfl ?_
    refine q_iload_n dJ0_getBytes_840e7_15 rfl ?_
    refine q_ishl0 dJ0_getBytes_840e7_16 ?_
    refine q_aload_nS hlo dJ0_getBytes_840e7_17 rfl ?_
    refine q_getf (k := 0) (v := .ref v) kC_J0 kL_J0_9 rfl (by decide) dJ0_getBytes_840e7_18 hc rfl ?_
    refine q_alenI rfl dJ0_getBytes_840e7_21 hby.c0 ?_
    have hn9 := hby.bcap
    change q_W _ _ _ _ _ _ _ _ 22 [.ref r, .ref w, .int (nI p), .int 0] [.int (nI n), .int (nI p), .ref w, .int 0, .ref v] _
    refine q_copy (t := 3) (sp := 0) (dp := nI p) (n := nI n) kL_J0_212 kO_3 kO_4 kJ_J10 rfl rfl rfl hby.c0 hw.c0 (by decide) (nI_pos (by omega)) (nI_pos (by omega)) (by rw [nI_clamp (by omega)]; show 0 + n ≤ n; omega) (by rw [nI_clamp (by omega), nI_clamp (by omega)]; exact hp) (fun j hj => ?_) (Nat.le_of_ble_eq_true rfl) (by omega) dJ0_getBytes_840e7_22 ?_
    · rw [nI_clamp (by omega)] at hj
      have e9 : (0 : Int32).toNatClampNeg + j = j := by show 0 + j = j; omega
      rw [e9, hb j hj]
      exact fitl _ (hl j hj)
    rw [nI_clamp (by omega), nI_clamp (by omega)]
    refine q_goto 43 dJ0_getBytes_840e7_25 (by decide) ?_
    exact q_return dJ0_getBytes_840e7_43 rfl (by omega) (by omega) ⟨rfl, bs, hb, rfl⟩
/-- nothing is inflated -/
theorem e_Sinfl {b w cn : Nat} {ml : Int32} (z : z_Str h r v n f) (s1 : z_Sb1 h b w ml cn) (hd : 1 ≤ d) : q_Spec g mJ5_inflateIfNeededFor_a7421 d 0 0 [.ref b, .ref r] h (q_ret none h) := by
  have zS := z.isS
  have hlo := zS.lo
  have hr := s1.r0
  refine q_enter (by decide +kernel) rfl rfl (Nat.le_of_ble_eq_true rfl) (fun hz => ?_)
  change q_W _ _ _ _ _ _ _ _ _ [.ref b, .ref r] [] _
  refine q_getstatic (v := .int (1)) (by simp [q_zs]) kL_J5_18 rfl dJ5_inflateIfNeededFor_a7421_0 ?_
  change q_W _ _ _ _ _ _ _ _ 3 [.ref b, .ref r] [.int (1)] _
  refine q_if_eq 21 dJ5_inflateIfNeededFor_a7421_3 (by decide) (fun b3 => absurd b3 (by decide)) (fun b3 => ?_)
  refine q_aload_n hr dJ5_inflateIfNeededFor_a7421_6 rfl ?_
  refine q_getf (k := 1) (v := .int 0) kC_J4 kL_J5_22 rfl (by decide) dJ5_inflateIfNeededFor_a7421_7 s1.c0 rfl ?_
  refine q_aload_nS hlo dJ5_inflateIfNeededFor_a7421_10 rfl ?_
  refine q_invStr zS (mc' := 0) (ms' := 0) (d' := d - 1) (as := []) dJ5_inflateIfNeededFor_a7421_11 kM_J0_coder_7d493 kL_J5_40 kI_J0_coder_7d493 kS_J0_coder_7d493 rfl rfl rfl (Nat.le_of_ble_eq_true rfl) (by omega) (by decide) (by omega) (by omega) (e_Scoder (d := d - 1) z (by omega)) (q_kR ?_) q_xR
  refine q_icmp_eq 21 dJ5_inflateIfNeededFor_a7421_14 (by decide) (fun b => ?_) (fun b => absurd rfl b)
  exact q_return dJ5_inflateIfNeededFor_a7421_21 rfl (by omega) (by omega) ⟨rfl, rfl⟩
theorem e_SputAt {b w cap cn p : Nat} {ml : Int32} {bd : Nat → Int32} (z : z_Str h r v n f) (s1 : z_Sb1 h b w ml cn) (hw : z_By h w cap bd) (hp : p + n ≤ cap) (hd : 3 ≤ d) : q_Spec g mJ5_putStringAt_47b60 d 0 0 [.ref b, .int (nI p), .ref r] h
    (q_chg (.inl none) (fun h1 => ∃ src : Nat → Int32, (∀ j, j < n → src j = f j) ∧ h1 = q_set h w (.inl (3, cap, .inl (va_cpy src bd 0 p n))))) := by
  have zS := z.isS
  have hlo := zS.lo
  have hr := s1.r0
  have hrw := hw.r0
  refine q_enter (by decide +kernel) rfl rfl (Nat.le_of_ble_eq_true rfl) (fun hz => ?_)
  change q_W _ _ _ _ _ _ _ _ _ [.ref b, .int (nI p), .ref r] [] _
  refine q_aload_n hr dJ5_putStringAt_47b60_0 rfl ?_
  refine q_aload_nS hlo dJ5_putStringAt_47b60_1 rfl ?_
  refine q_invV (mc' := 0) (ms' := 0) (d' := d - 1) (as := [.ref r]) dJ5_putStringAt_47b60_2 kM_J5_inflateIfNeededFor_a7421 kL_J5_397 kI_J5_inflateIfNeededFor_a7421 kS_J5_inflateIfNeededFor_a7421 rfl (kC_J4.1) s1.c0 rfl rfl (Nat.le_of_ble_eq_true rfl) (by omega) (by decide) (by omega) (by omega) (e_Sinfl (d := d - 1) z s1 (by omega)) (q_kR ?_) q_xR
  change q_W _ _ _ _ _ _ _ _ 5 [.ref b, .int (nI p), .ref r] [] _
  refine q_aload_nS hlo dJ5_putStringAt_47b60_5 rfl ?_
  refine q_aload_n hr dJ5_putStringAt_47b60_6 rfl ?_
  refine q_getf (k := 0) (v := .ref w) kC_J4 kL_J5_15 rfl (by decide) dJ5_putStringAt_47b60_7 s1.c0 rfl ?_
  refine q_iload_n dJ5_putStringAt_47b60_10 rfl ?_
  refine q_aload_n hr dJ5_putStringAt_47b60_11 rfl ?_
  refine q_getf (k := 1) (v := .int 0) kC_J4 kL_J5_22 rfl (by decide) dJ5_putStringAt_47b60_12 s1.c0 rfl ?_
  refine q_invStr zS (mc' := 0) (ms' := 0) (d' := d - 1) (as := [.ref w, .int (nI p), .int 0]) dJ5_putStringAt_47b60_15 kM_J0_getBytes_840e7 kL_J5_399 kI_J0_getBytes_840e7 kS_J0_getBytes_840e7 rfl rfl rfl (Nat.le_of_ble_eq_true rfl) (by omega) (by decide) (by omega) (by omega) (e_SgetBytes (d := d - 1) z hw hp (by omega)) (q_kC (fun h1 hB => ?_)) q_xC
  exact q_return dJ5_putStringAt_47b60_18 rfl (by omega) (by omega) ⟨rfl, hB⟩
/-- the letters of f up to cn, then those of s -/
def x_cat (f : Nat → Int32) (cn : Nat) (s : Nat → Int32) : Nat → Int32 := fun j => if j < cn then f j else s (j - cn)
theorem e_appS5 {b cn w : Nat} {fb : Nat → Int32} (z : z_Str h r v n f) (s : z_Sb h b cn fb w) (hne : r ≠ b ∧ r ≠ w ∧ v ≠ b ∧ v ≠ w) (hcn : cn + n ≤ 142) (hd : 5 ≤ d) : q_Spec g mJ5_append_cf1ce d 1 286 [.ref b, .ref r] h
    (q_chg (.inl (some (.ref b))) (fun h1 => ∃ w', z_Sb h1 b (cn + n) (x_cat fb cn f) w' ∧ (w' = w ∨ h.1 ≤ w') ∧ q_two h h1 b w)) := by
  obtain ⟨ml, cap, bs, s1, s2, hbv, h16, hcc, hnar, hf⟩ := s
  have hr_sb := s1.r0
  have zS := z.isS
  have hlo := zS.lo
  have zl : ∀ j, j < n → z_lat (f j) := fun j hj => z.lat hj
  have hrlt : q_R0 ≤ r → r < h.1 ∧ v < h.1 := fun hq => by
    obtain ⟨-, -, ⟨k, hk, e1, -⟩ | ⟨-, s0, -, -, bs9, by9, -⟩⟩ := z
    · rw [q_R0e] at hq
      omega
    · have := by9.s0
      omega
  refine q_enter (by decide +kernel) rfl rfl (Nat.le_of_ble_eq_true rfl) (fun hz => ?_)
  change q_W _ _ _ _ _ _ _ _ _ [.ref b, .ref r, q_u] [] _
  refine q_aload_nS hlo dJ5_append_cf1ce_0 rfl ?_
  refine q_ifnonnull (tgt := 9) hlo dJ5_append_cf1ce_1 (by decide) ?_
  refine q_aload_nS hlo dJ5_append_cf1ce_9 rfl ?_
  refine q_invStr zS (mc' := 0) (ms' := 0) (d' := d - 1) (as := []) dJ5_append_cf1ce_10 kM_J0_length_8abf5 kL_J5_32 kI_J0_length_8abf5 kS_J0_length_8abf5 rfl rfl rfl (Nat.le_of_ble_eq_true rfl) (by omega) (by decide) (by omega) (by omega) (e_Slen (d := d - 1) z (by omega)) (q_kR ?_) q_xR
  change q_W _ _ _ _ _ _ _ _ 13 [.ref b, .ref r, q_u] [.int (nI n)] _
  refine q_istore_n dJ5_append_cf1ce_13 (by decide) rfl ?_
  change q_W _ _ _ _ _ _ _ _ _ [.ref b, .ref r, .int (nI n)] [] _
  refine q_aload_n hr_sb dJ5_append_cf1ce_14 rfl ?_
  refine q_aload_n hr_sb dJ5_append_cf1ce_15 rfl ?_
  refine q_getf (k := 3) (v := .int (nI cn)) kC_J4 kL_J5_79 rfl (by decide) dJ5_append_cf1ce_16 s1.c0 rfl ?_
  refine q_iload_n dJ5_append_cf1ce_19 rfl ?_
  refine q_iaddN (a := cn) (b := n) dJ5_append_cf1ce_20 ?_
  refine q_invV (mc' := 1) (ms' := 286) (d' := d - 1) (as := [.int (nI (cn + n))]) dJ5_append_cf1ce_21 kM_J5_ensureCapacityInternal_d00df kL_J5_100 kI_J5_ensureCapacityInternal_d00df kS_J5_ensureCapacityInternal_d00df rfl (kC_J4.1) s1.c0 rfl rfl (Nat.le_of_ble_eq_true rfl) (by omega) (by decide) (by omega) (by omega) (e_ensure2 (d := d - 1) s1 s2 hnar hbv h16 hcn (by omega)) (q_kC (fun h1 hB => ?_)) q_xC
  obtain ⟨w', cap', bs', t1, t2, hw', hbw', hq', hcap', hpre, hnar', pp⟩ := hB
  have hr_by := t2.r0
  have hb_by := t2.bcap
  have z1 : z_Str h1 r v n f := z.two pp hne
  have zS1 := z1.isS
  have hne1 : r ≠ w' ∧ v ≠ w' := by
    rcases hlo with q | q
    · have e0 := q_R0e
      obtain ⟨-, -, ⟨k, hk, e1, e2, -⟩ | ⟨a9, -⟩⟩ := z
      · omega
      · omega
    · obtain ⟨l1, l2⟩ := hrlt q
      omega
  change q_W _ _ _ _ _ _ _ _ 24 [.ref b, .ref r, .int (nI n)] [] _
  refine q_aload_n hr_sb dJ5_append_cf1ce_24 rfl ?_
  refine q_aload_n hr_sb dJ5_append_cf1ce_25 rfl ?_
  refine q_getf (k := 3) (v := .int (nI cn)) kC_J4 kL_J5_79 rfl (by decide) dJ5_append_cf1ce_26 t1.c0 rfl ?_
  refine q_aload_nS hlo dJ5_append_cf1ce_29 rfl ?_
  refine q_invV (mc' := 0) (ms' := 0) (d' := d - 1) (as := [.int (nI cn), .ref r]) dJ5_append_cf1ce_30 kM_J5_putStringAt_47b60 kL_J5_208 kI_J5_putStringAt_47b60 kS_J5_putStringAt_47b60 rfl (kC_J4.1) t1.c0 rfl rfl (Nat.le_of_ble_eq_true rfl) (by omega) (by decide) (by omega) (by omega) (e_SputAt (d := d - 1) z1 t1 t2 (by omega) (by omega)) (q_kC (fun h2 hB => ?_)) q_xC
  obtain ⟨src, hsrc, e2⟩ := hB
  have u1 : z_Sb1 h2 b w' ml cn := by
    rw [e2]
    exact t1.keep (q_same.set (a := w') (k := 1) (Nat.le_refl _) (by omega)) (by omega)
  have u2 : z_By h2 w' cap' (va_cpy src bs' 0 cn n) := by
    rw [e2]
    exact ⟨t2.1, t2.2.1, t2.2.2.1, q_set_eq⟩
  have p2 : q_two h h2 b w := by
    rw [e2]
    exact pp.put (by omega)
  change q_W _ _ _ _ _ _ _ _ 33 [.ref b, .ref r, .int (nI n)] [] _
  refine q_aload_n hr_sb dJ5_append_cf1ce_33 rfl ?_
  refine q_dup dJ5_append_cf1ce_34 rfl ?_
  refine q_getf (k := 3) (v := .int (nI cn)) kC_J4 kL_J5_79 rfl (by decide) dJ5_append_cf1ce_35 u1.c0 rfl ?_
  refine q_iload_n dJ5_append_cf1ce_38 rfl ?_
  refine q_iaddN (a := cn) (b := n) dJ5_append_cf1ce_39 ?_
  refine q_putf (k := 3) kC_J4 kL_J5_79 rfl (by decide) rfl dJ5_append_cf1ce_40 u1.c0 (Nat.le_of_ble_eq_true rfl) ⟨rfl, rfl⟩ rfl ?_
  refine z_genW (B := fun H => z_Sb1 H b w' ml (cn + n) ∧ z_By H w' cap' (va_cpy src bs' 0 cn n) ∧ q_two h H b w) ⟨z_Sb1.put0 u1 (hbcn := by omega), u2.keep (q_same.set (a := b) (k := 1) (Nat.le_refl _) (by omega)) (by omega), p2.put (by omega)⟩ (fun h3 hB => ?_)
  obtain ⟨w1, w2, p3⟩ := hB
  refine q_aload_n hr_sb dJ5_append_cf1ce_43 rfl ?_
  refine q_areturn hr_sb dJ5_append_cf1ce_44 rfl (Or.inl ⟨_, rfl⟩) (by omega) (by omega) ⟨rfl, w', ⟨ml, cap', _, w1, w2, hbw', by omega, by omega, fun j hj => ?_, fun j hj => ?_⟩, hw', p3⟩
  · by_cases e : cn ≤ j ∧ j < cn + n
    · rw [pk_cpy_in (by omega) (by omega)]
      rw [hsrc _ (by omega)]
      exact z_lat_nar (zl _ (by omega))
    · rw [pk_cpy_out (by omega)]
      exact hnar' j hj
  · unfold x_cat
    by_cases e : cn ≤ j
    · rw [if_neg (by omega), pk_cpy_in (by omega) (by omega), hsrc _ (by omega)]
      have e9 : 0 + (j - cn) = j - cn := by omega
      rw [e9]
      exact ⟨zl _ (by omega), rfl⟩
    · rw [if_pos (by omega), pk_cpy_out (by omega)]
      obtain ⟨q1, q2⟩ := hf j (by omega)
      exact ⟨q1, (hpre j (by omega)).trans q2⟩
theorem e_appS {b cn w : Nat} {fb : Nat → Int32} (z : z_Str h r v n f) (s : z_Sb h b cn fb w) (hne : r ≠ b ∧ r ≠ w ∧ v ≠ b ∧ v ≠ w) (hcn : cn + n ≤ 142) (hd : 6 ≤ d) : q_Spec g mJ4_append_15ec4 d 1 286 [.ref b, .ref r] h
    (q_chg (.inl (some (.ref b))) (fun h1 => ∃ w', z_Sb h1 b (cn + n) (x_cat fb cn f) w' ∧ (w' = w ∨ h.1 ≤ w') ∧ q_two h h1 b w)) := by
  have hlo := z.isS.lo
  have hr := s.r0
  obtain ⟨fs, hc⟩ := s.cell
  refine q_enter (by decide +kernel) rfl rfl (Nat.le_of_ble_eq_true rfl) (fun hz => ?_)
  change q_W _ _ _ _ _ _ _ _ _ [.ref b, .ref r] [] _
  refine q_aload_n hr dJ4_append_15ec4_0 rfl ?_
  refine q_aload_nS hlo dJ4_append_15ec4_1 rfl ?_
  refine q_invSU (mc' := 1) (ms' := 286) (d' := d - 1) (as := [.ref r]) dJ4_append_15ec4_2 kM_J5_append_cf1ce (by decide) kL_J4_29 kW_1370 kP_J4 kI_J5_append_cf1ce rfl (kC_J4.1) hc rfl rfl (Nat.le_of_ble_eq_true rfl) (by omega) (by decide) (by omega) (by omega) (e_appS5 (d := d - 1) z s hne hcn (by omega)) (q_kC (fun h1 hB => ?_)) q_xC
  change q_W _ _ _ _ _ _ _ _ 5 [.ref b, .ref r] [.ref b] _
  refine q_pop dJ4_append_15ec4_5 rfl ?_
  refine q_aload_n hr dJ4_append_15ec4_6 rfl ?_
  exact q_areturn hr dJ4_append_15ec4_7 rfl (Or.inl ⟨_, rfl⟩) (by omega) (by omega) ⟨rfl, hB⟩
/-- the first n bytes of a row, in a row of their own -/
theorem e_copyRange {cap n : Nat} {bs : Nat → Int32} (hby : z_By h v cap bs) (hl : ∀ j, j < cap → vp_nar .byte (bs j) = bs j) (hn : n ≤ cap) (hn2 : n ≤ 142) (hd : 2 ≤ d) : q_Spec g mJ7_copyOfRange_39247 d 1 142 [.ref v, .int 0, .int (nI n)] h
    (q_chg (.inl (some (.ref h.1))) (fun h1 => (∃ bs', z_By h1 h.1 n bs' ∧ ∀ j, j < n → bs' j = bs j) ∧ h1.1 = h.1 + 1 ∧ ∀ i, i < h.1 → h1.2 i = h.2 i)) := by
  have hr := hby.r0
  have hs := hby.s0
  have hcap := hby.bcap
  have fitl : ∀ j, j < cap → fits .byte (.int (bs j)) = true := fun j hj => by
    rw [← hl j hj, vp_nar_byte]
    exact pk_fb _
  refine q_enter (by decide +kernel) rfl rfl (Nat.le_of_ble_eq_true rfl) (fun hz => ?_)
  change q_W _ _ _ _ _ _ _ _ _ [.ref v, .int 0, .int (nI n)] [] _
  refine q_iload_n dJ7_copyOfRange_39247_0 rfl ?_
  refine q_if_ne 10 dJ7_copyOfRange_39247_1 (by decide) (fun b => absurd rfl b) (fun b => ?_)
  refine q_iload_n dJ7_copyOfRange_39247_4 rfl ?_
  refine q_aload_n hr dJ7_copyOfRange_39247_5 rfl ?_
  refine q_alenI rfl dJ7_copyOfRange_39247_6 hby.c0 ?_
  change q_W _ _ _ _ _ _ _ _ _ _ [.int (nI cap), .int (nI n)] _
  refine q_icmp_eq 17 dJ7_copyOfRange_39247_7 (by decide) (fun b9 => ?_) (fun b9 => ?_)
  · have e9 : n = cap := (nI_eq (a := n) (b := cap) (by omega) (by omega)).mp b9
    subst e9
    refine q_aload_n hr dJ7_copyOfRange_39247_17 rfl ?_
    refine q_cloneB kL_J7_310 kW_704 kX_clone1 kX_clone2 kU_0 kX_clone3 rfl hby.c0 fitl (Nat.le_of_ble_eq_true rfl) (by omega) (by omega) (by omega) dJ7_copyOfRange_39247_18 ?_
    have hc1 : (q_push h (.inl (3, n, .inl bs))).2 h.1 = some (.inl (3, n, .inl bs)) := by simp [q_push]
    refine q_castB kL_J7_311 rfl hc1 dJ7_copyOfRange_39247_21 ?_
    refine q_areturn hz dJ7_copyOfRange_39247_24 rfl (Or.inr ⟨_, rfl⟩) (by omega) (by omega) ⟨rfl, ⟨bs, ⟨hz, Nat.le_refl _, by omega, hc1⟩, fun _ _ => rfl⟩, rfl, fun i hi => ?_⟩
    simp only [q_push]
    rw [if_neg (by omega)]
  · refine q_aload_n hr dJ7_copyOfRange_39247_10 rfl ?_
    refine q_iload_n dJ7_copyOfRange_39247_11 rfl ?_
    refine q_iload_n dJ7_copyOfRange_39247_12 rfl ?_
    refine q_invS (mc' := 1) (ms' := 142) (d' := d - 1) (as := [.ref v, .int 0, .int (nI n)]) (Q' := q_chg (.inl (some (.ref h.1))) (fun h1 => (∃ bs', z_By h1 h.1 n bs' ∧ ∀ j, j < n → bs' j = bs j) ∧ h1.1 = h.1 + 1 ∧ ∀ i, i < h.1 → h1.2 i = h.2 i)) dJ7_copyOfRange_39247_13 kM_J7_copyOfRangeByte_39247 kL_J7_339 kT_J7_copyOfRangeByte_39247 rfl rfl rfl (Nat.le_of_ble_eq_true rfl) (by omega) (by decide) (by omega) (by omega) ?_ (q_kC (fun h1 hB => ?_)) q_xC
    · refine q_enter (by decide +kernel) rfl rfl (Nat.le_of_ble_eq_true rfl) (fun hz2 => ?_)
      change q_W _ _ _ _ _ _ _ _ _ [.ref v, .int 0, .int (nI n), q_u, q_u] [] _
      refine q_iload_n dJ7_copyOfRangeByte_39247_0 rfl ?_
      refine q_iload_n dJ7_copyOfRangeByte_39247_1 rfl ?_
      refine q_invS (mc' := 0) (ms' := 0) (d' := d - 1 - 1) (as := [.int 0, .int (nI n)]) (Q' := q_ret none h) dJ7_copyOfRangeByte_39247_2 kM_J7_checkLength_df160 kL_J7_343 kT_J7_checkLength_df160 rfl rfl rfl (Nat.le_of_ble_eq_true rfl) (by omega) (by decide) (by omega) (by omega) ?_ (q_kR ?_) q_xR
      · refine q_enter (by decide +kernel) rfl rfl (Nat.le_of_ble_eq_true rfl) (fun hz3 => ?_)
        change q_W _ _ _ _ _ _ _ _ _ [.int 0, .int (nI n)] [] _
        refine q_iload_n dJ7_checkLength_df160_0 rfl ?_
        refine q_iload_n dJ7_checkLength_df160_1 rfl ?_
        refine q_icmp_ge 37 dJ7_checkLength_df160_2 (by decide) (fun b => ?_) (fun b => absurd (nI_pos' (by omega)) b)
        exact q_return dJ7_checkLength_df160_37 rfl (by omega) (by omega) ⟨rfl, rfl⟩
      change q_W _ _ _ _ _ _ _ _ 5 [.ref v, .int 0, .int (nI n), q_u, q_u] [] _
      refine q_iload_n dJ7_copyOfRangeByte_39247_5 rfl ?_
      refine q_iload_n dJ7_copyOfRangeByte_39247_6 rfl ?_
      refine q_isubN (a := n) (b := 0) (by omega) dJ7_copyOfRangeByte_39247_7 ?_
      rw [Nat.sub_zero]
      refine q_istore_n dJ7_copyOfRangeByte_39247_8 (by decide) rfl ?_
      change q_W _ _ _ _ _ _ _ _ _ [.ref v, .int 0, .int (nI n), .int (nI n), q_u] [] _
      refine q_iload_n dJ7_copyOfRangeByte_39247_9 rfl ?_
      refine q_newaB (N := n) kA_byte dJ7_copyOfRangeByte_39247_10 (nI_pos (by omega)) (nI_clamp (by omega)) (by show n * 1 ≤ 536870912; omega) (by omega) (by omega) (fun hz1 => ?_)
      refine q_astore hz1 dJ7_copyOfRangeByte_39247_12 (by decide) rfl ?_
      change q_W _ _ _ _ _ _ _ _ _ [.ref v, .int 0, .int (nI n), .int (nI n), .ref h.1] [] _
      refine q_aload_n hr dJ7_copyOfRangeByte_39247_14 rfl ?_
      refine q_iload_n dJ7_copyOfRangeByte_39247_15 rfl ?_
      refine q_aload hz1 dJ7_copyOfRangeByte_39247_16 rfl ?_
      refine q_iconst (v := 0) dJ7_copyOfRangeByte_39247_18 rfl ?_
      refine q_aload_n hr dJ7_copyOfRangeByte_39247_19 rfl ?_
      have hc2 : (q_push h (.inl (3, n, .inl (fun _ => 0)))).2 v = some (.inl (3, cap, .inl bs)) := by
        simp only [q_push]
        rw [if_neg (by omega)]
        exact hby.c0
      refine q_alenI rfl dJ7_copyOfRangeByte_39247_20 hc2 ?_
      change q_W _ _ _ _ _ _ _ _ _ _ [.int (nI cap), .int 0, .ref h.1, .int 0, .ref v] _
      refine q_iload_n dJ7_copyOfRangeByte_39247_21 rfl ?_
      refine q_isubN (a := cap) (b := 0) (by omega) dJ7_copyOfRangeByte_39247_22 ?_
      rw [Nat.sub_zero]
      refine q_iload_n dJ7_copyOfRangeByte_39247_23 rfl ?_
      refine q_mmin kL_J7_304 kT_J9_min_7cf53 (kM_J9_min_7cf53.2.2.2.1) rfl dJ7_copyOfRangeByte_39247_24 (Nat.le_of_ble_eq_true rfl) (by omega) (by omega) (by omega) ?_
      rw [z_nite (by omega) (by omega), show (if n < cap then n else cap) = n by split <;> omega]
      refine q_copy (t := 3) (sp := 0) (dp := 0) (n := nI n) kL_J7_150 kO_3 kO_4 kJ_J10 rfl rfl rfl hc2 (show (q_push h (.inl (3, n, .inl (fun _ => 0)))).2 h.1 = some (.inl (3, n, .inl (fun _ => 0))) by simp [q_push]) (by decide) (by decide) (nI_pos (by omega)) (by rw [nI_clamp (by omega)]; show 0 + n ≤ cap; omega) (by rw [nI_clamp (by omega)]; show 0 + n ≤ n; omega) (fun k hk => ?_) (Nat.le_of_ble_eq_true rfl) (by omega) dJ7_copyOfRangeByte_39247_27 ?_
      · rw [nI_clamp (by omega)] at hk
        have e9 : (0 : Int32).toNatClampNeg + k = k := by show 0 + k = k; omega
        rw [e9]
        exact fitl _ (by omega)
      rw [nI_clamp (by omega)]
      refine q_aload hz1 dJ7_copyOfRangeByte_39247_30 rfl ?_
      refine q_areturn hz1 dJ7_copyOfRangeByte_39247_32 rfl (Or.inr ⟨_, rfl⟩) (by omega) (by omega) ⟨rfl, ⟨_, ⟨hz1, Nat.le_refl _, by omega, q_set_eq⟩, fun j hj => ?_⟩, rfl, fun i hi => ?_⟩
      · show va_cpy bs (fun _ => 0) 0 0 n j = bs j
        rw [pk_cpy_in (by omega) (by omega)]
        congr 1
        omega
      · simp only [q_set, q_push]
        rw [if_neg (by omega), if_neg (by omega)]
    change q_W _ _ _ _ _ _ _ _ 16 [.ref v, .int 0, .int (nI n)] [.ref h.1] _
    exact q_areturn hz dJ7_copyOfRange_39247_16 rfl (Or.inr ⟨_, rfl⟩) (by omega) (by omega) ⟨rfl, hB⟩
end STRS
