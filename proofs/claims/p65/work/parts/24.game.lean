def x_J7_fill_5 (xv : Int32) : Nat → Nat → (Nat → Int32) → (Nat → Int32)
  | 0, _, f_5 => f_5
  | r + 1, k, f_5 => x_J7_fill_5 xv r (k + 1) (upd f_5 k (xv))
set_option maxRecDepth 100000 in
set_option maxHeartbeats 8000000 in
theorem l_J7_fill_5 {g : q_G} {h : q_H} {d mc ms kc ks : Nat} {Q : q_O → q_H → Prop} {q : Nat} {xv : Int32}  (hr_ar : q_R0 ≤ q)   (hd : 0 ≤ d) (hkc : kc + 0 ≤ mc) (hks : ks + 0 ≤ ms) : ∀ (r k : Nat) (f_5 : Nat → Int32) (hh : q_H) (sar_5 : z_I256 hh q f_5) (pH : q_same h hh q 1) (hk_5 : k + r = 256) (K : ∀ (r5_0 : Nat → Int32), x_J7_fill_5 xv r k f_5 = r5_0 → ∀ h2, z_I256 h2 q r5_0 → q_same h h2 q 1 → q_W g mJ7_fill_53178 d mc ms Q kc ks 20 [q_u, q_u, q_u, q_u] [] h2), q_W g mJ7_fill_53178 d mc ms Q kc ks 5 [.ref (q), .int (xv), .int (nI (k)), .int (256)] [] hh := by
  intro r
  induction r with
  | zero =>
    intro k f_5 hh sar_5 pH hk_5 K
    have hr_ar := sar_5.r0
    refine q_iload_n dJ7_fill_53178_5 rfl ?_
    refine q_iload_n dJ7_fill_53178_6 rfl ?_
    refine q_icmp_ge 20 dJ7_fill_53178_7 (by decide) (fun b7 => ?_) (fun b7 => ?_)
    · have b7 := (nI_leI (a := 256) (b := k) (by omega) (by omega)).mp b7
      refine q_forget 0 ?_
      refine q_forget 1 ?_
      refine q_forget 2 ?_
      refine q_forget 3 ?_
      change q_W _ _ _ _ _ _ _ _ _ [q_u, q_u, q_u, q_u] [] _
      exact K f_5 (by simp only [x_J7_fill_5]) hh sar_5 pH
    · have b7 : ¬ (256 ≤ k) := fun q => b7 ((nI_leI (a := 256) (b := k) (by omega) (by omega)).mpr q)
      exact absurd b7 (by omega)
  | succ r ih =>
    intro k f_5 hh sar_5 pH hk_5 K
    have hr_ar := sar_5.r0
    refine q_iload_n dJ7_fill_53178_5 rfl ?_
    refine q_iload_n dJ7_fill_53178_6 rfl ?_
    refine q_icmp_ge 20 dJ7_fill_53178_7 (by decide) (fun b7 => ?_) (fun b7 => ?_)
    · have b7 := (nI_leI (a := 256) (b := k) (by omega) (by omega)).mp b7
      exact absurd b7 (by omega)
    · have b7 : ¬ (256 ≤ k) := fun q => b7 ((nI_leI (a := 256) (b := k) (by omega) (by omega)).mpr q)
      refine q_aload_n (by first | assumption | omega | decide) dJ7_fill_53178_10 rfl ?_
      refine q_iload_n dJ7_fill_53178_11 rfl ?_
      refine q_iload_n dJ7_fill_53178_12 rfl ?_
      refine q_iastN (j := k) dJ7_fill_53178_13 sar_5.c0 (by omega) (by decide) ?_
      refine z_genW (B := fun H => z_I256 H q (upd f_5 k (xv)) ∧ q_same h H q 1) ⟨z_I256.put0 sar_5, pH.trans (q_same.set (by omega) (by omega))⟩ (fun h1 hB => ?_)
      obtain ⟨sar1, p1⟩ := hB
      refine q_iinc (x := nI (k)) (v := nI (k + 1)) dJ7_fill_53178_14 rfl (nI_add _ 1) rfl ?_
      change q_W _ _ _ _ _ _ _ _ _ [.ref (q), .int (xv), .int (nI (k + 1)), .int (256)] [] _
      refine q_goto 5 dJ7_fill_53178_17 (by decide) ?_
      change q_W _ _ _ _ _ _ _ _ _ [.ref (q), .int (xv), .int (nI (k + 1)), .int (256)] [] _
      exact ih (k + 1) (upd f_5 k (xv)) h1 sar1 p1 (by omega) (fun r5_0 e9 => K r5_0 (by simp only [x_J7_fill_5]; exact e9))
def x_J7_fill (f : Nat → Int32) (xv : Int32) : (Nat → Int32) := (let a2_0 := x_J7_fill_5 xv 256 0 f; (a2_0))
set_option maxRecDepth 100000 in
set_option maxHeartbeats 8000000 in
theorem e_J7_fill {g : q_G} {h : q_H} {d : Nat} {q : Nat} {f : Nat → Int32} (sar : z_I256 h q f)  (xv : Int32)   (hd : 0 ≤ d) : q_Spec g mJ7_fill_53178 d 0 0 [.ref (q), .int (xv)] h (q_chg (.inl none) (fun h1 => z_I256 h1 q (x_J7_fill f xv) ∧ q_same h h1 q 1)) := by
  have hr_ar := sar.r0
  have p0 : q_same h h q 1 := q_same.rfl'
  refine q_enter (by decide +kernel) rfl rfl (Nat.le_of_ble_eq_true rfl) (fun hz => ?_)
  change q_W _ _ _ _ _ _ _ _ _ [.ref (q), .int (xv), q_u, q_u] [] _
  refine q_iconst (v := 0) dJ7_fill_53178_0 rfl ?_
  refine q_istore_n dJ7_fill_53178_1 (by decide) rfl ?_
  change q_W _ _ _ _ _ _ _ _ _ [.ref (q), .int (xv), .int (0), q_u] [] _
  refine q_aload_n (by first | assumption | omega | decide) dJ7_fill_53178_2 rfl ?_
  refine q_alenI rfl dJ7_fill_53178_3 sar.c0 ?_
  change q_W _ _ _ _ _ _ _ _ _ _ [.int (256)] _
  refine q_istore_n dJ7_fill_53178_4 (by decide) rfl ?_
  change q_W _ _ _ _ _ _ _ _ _ [.ref (q), .int (xv), .int (0), .int (256)] [] _
  change q_W _ _ _ _ _ _ _ _ _ [.ref (q), .int (xv), .int (0), .int (256)] [] _
  refine l_J7_fill_5 hr_ar (by omega) (by omega) (by omega) 256 0 f h sar p0 (by omega) (fun a2_0 x2 h3 sar3 p3 => ?_)
  change q_W _ _ _ _ _ _ _ _ 20 [q_u, q_u, q_u, q_u] [] _
  have hE : x_J7_fill f xv = (a2_0) := by simp only [x_J7_fill, x2]
  rw [hE]
  exact q_return dJ7_fill_53178_20 rfl (by omega) (by omega) ⟨rfl, sar3, p3⟩
def x_ga_isAnswered_12 (f : Nat → Int32) (j : Nat) (m : Nat) (H : Nat → Nat → (Nat → Int32) → (Nat → Int32) → Bool × (Nat → Int32) × (Nat → Int32)) : Nat → Nat → (Nat → Int32) → (Nat → Int32) → ((Nat → Int32) × (Nat → Int32)) ⊕ ((Bool) × (Nat → Int32) × (Nat → Int32))
  | 0, _, lost_12, won_12 => .inl (lost_12, won_12)
  | r + 1, k, lost_12, won_12 => (if z_has ((f j) &&& ((nI (m)) ^^^ (-1 : Int32))) k then (match H k (m ||| (2 ^ k)) won_12 lost_12 with | (v1, y1_won, y1_lost) => (if v1 then .inr (true, y1_won, y1_lost) else x_ga_isAnswered_12 f j m H r (k + 1) y1_lost y1_won)) else x_ga_isAnswered_12 f j m H r (k + 1) lost_12 won_12)
set_option maxRecDepth 100000 in
set_option maxHeartbeats 8000000 in
theorem l_ga_isAnswered_12 {g : q_G} {h : q_H} {d mc ms kc ks : Nat} {Q : q_O → q_H → Prop} {c : Nat} {q : Nat} {f : Nat → Int32} {j : Nat} {m : Nat} {dp : Nat} {H : Nat → Nat → (Nat → Int32) → (Nat → Int32) → Bool × (Nat → Int32) × (Nat → Int32)}  (hr_ga : q_R0 ≤ c) (hr_at : q_R0 ≤ q) (hj : j < 8) (hm : m < 2 ^ 8) (hs : q + 1 ≤ c ∨ c + 3 ≤ q) (hdp : dp ≤ 8) (IH : dp ≤ 8 → ∀ {g : q_G} {h : q_H} {d : Nat} {won lost : Nat → Int32} (sga : z_Ga h c won lost) (sat : z_I8 h q f) (j m : Nat) (hj : j < 8) (hm : m < 2 ^ 8) (hd : 2 * (8 - dp) + 2 ≤ d), q_Spec g mX4_holds d 0 0 [.ref c, .ref q, .int (nI j), .int (nI m), .int (nI (dp + 1))] h (q_chg (.inl (some (.int (z_b (H j m won lost).1)))) (fun h1 => z_Ga h1 c (H j m won lost).2.1 (H j m won lost).2.2 ∧ z_I8 h1 q f ∧ q_same h h1 c 3))) (hd : 2 * (8 - dp) + 3 ≤ d) (hkc : kc + 0 ≤ mc) (hks : ks + 0 ≤ ms) : ∀ (r k : Nat) (lost_12 : Nat → Int32) (won_12 : Nat → Int32) (hh : q_H) (sga_12 : z_Ga hh c won_12 lost_12) (sat_12 : z_I8 hh q f) (pH : q_same h hh c 3) (hk_12 : k + r = 8) (K : ∀ (r12_0 : Nat → Int32) (r12_1 : Nat → Int32), x_ga_isAnswered_12 f j m H r k lost_12 won_12 = .inl (r12_0, r12_1) → ∀ h2, z_Ga h2 c r12_1 r12_0 → z_I8 h2 q f → q_same h h2 c 3 → q_W g mX4_isAnswered d mc ms Q kc ks 57 [q_u, q_u, q_u, q_u, q_u, q_u, q_u] [] h2) (K2 : ∀ z, x_ga_isAnswered_12 f j m H r k lost_12 won_12 = .inr z → ∀ o h1, q_chg (.inl (some (.int (z_b z.1)))) (fun h1 => z_Ga h1 c z.2.1 z.2.2 ∧ z_I8 h1 q f ∧ q_same h h1 c 3) o h1 → Q o h1), q_W g mX4_isAnswered d mc ms Q kc ks 12 [.ref (c), .ref (q), q_u, .int (nI (m)), .int (nI (dp)), .int ((f j) &&& ((nI (m)) ^^^ (-1 : Int32))), .int (nI (k))] [] hh := by
  intro r
  induction r with
  | zero =>
    intro k lost_12 won_12 hh sga_12 sat_12 pH hk_12 K K2
    have hr_ga := sga_12.r0
    have hr_at := sat_12.r0
    refine q_iload dX4_isAnswered_12 rfl ?_
    refine q_bipush (v := 8) dX4_isAnswered_14 rfl ?_
    refine q_icmp_ge 57 dX4_isAnswered_16 (by decide) (fun b16 => ?_) (fun b16 => ?_)
    · have b16 := (nI_leI (a := 8) (b := k) (by omega) (by omega)).mp b16
      refine q_forget 0 ?_
      refine q_forget 1 ?_
      refine q_forget 3 ?_
      refine q_forget 4 ?_
      refine q_forget 5 ?_
      refine q_forget 6 ?_
      change q_W _ _ _ _ _ _ _ _ _ [q_u, q_u, q_u, q_u, q_u, q_u, q_u] [] _
      exact K lost_12 won_12 (by simp only [x_ga_isAnswered_12]) hh sga_12 sat_12 pH
    · have b16 : ¬ (8 ≤ k) := fun q => b16 ((nI_leI (a := 8) (b := k) (by omega) (by omega)).mpr q)
      exact absurd b16 (by omega)
  | succ r ih =>
    intro k lost_12 won_12 hh sga_12 sat_12 pH hk_12 K K2
    have hr_ga := sga_12.r0
    have hr_at := sat_12.r0
    refine q_iload dX4_isAnswered_12 rfl ?_
    refine q_bipush (v := 8) dX4_isAnswered_14 rfl ?_
    refine q_icmp_ge 57 dX4_isAnswered_16 (by decide) (fun b16 => ?_) (fun b16 => ?_)
    · have b16 := (nI_leI (a := 8) (b := k) (by omega) (by omega)).mp b16
      exact absurd b16 (by omega)
    · have b16 : ¬ (8 ≤ k) := fun q => b16 ((nI_leI (a := 8) (b := k) (by omega) (by omega)).mpr q)
      refine q_iload dX4_isAnswered_19 rfl ?_
      refine q_iload dX4_isAnswered_21 rfl ?_
      refine q_invSN (mc' := 0) (ms' := 0) (d' := d - 1) (as := [.int ((f j) &&& ((nI (m)) ^^^ (-1 : Int32))), .int (nI (k))]) dX4_isAnswered_23 kM_X10_has kN_X4_33 kT_X10_has rfl rfl rfl (Nat.le_of_ble_eq_true rfl) (by omega) (by decide) (by omega) (by omega) (e_has (d := d - 1)) (q_kR ?_) q_xR
      change q_W _ _ _ _ _ _ _ _ 26 [.ref (c), .ref (q), q_u, .int (nI (m)), .int (nI (dp)), .int ((f j) &&& ((nI (m)) ^^^ (-1 : Int32))), .int (nI (k))] [.int (z_b (z_has ((f j) &&& ((nI (m)) ^^^ (-1 : Int32))) k))] _
      refine q_if_eq 51 dX4_isAnswered_26 (by decide) (fun b26 => ?_) (fun b26 => ?_)
      · have b26 := z_b0n b26
        refine q_iinc (x := nI (k)) (v := nI (k + 1)) dX4_isAnswered_51 rfl (nI_add _ 1) rfl ?_
        change q_W _ _ _ _ _ _ _ _ _ [.ref (c), .ref (q), q_u, .int (nI (m)), .int (nI (dp)), .int ((f j) &&& ((nI (m)) ^^^ (-1 : Int32))), .int (nI (k + 1))] [] _
        refine q_goto 12 dX4_isAnswered_54 (by decide) ?_
        change q_W _ _ _ _ _ _ _ _ _ [.ref (c), .ref (q), q_u, .int (nI (m)), .int (nI (dp)), .int ((f j) &&& ((nI (m)) ^^^ (-1 : Int32))), .int (nI (k + 1))] [] _
        exact ih (k + 1) lost_12 won_12 hh sga_12 sat_12 pH (by omega) (fun r12_0 r12_1 e9 => K r12_0 r12_1 (by simp only [x_ga_isAnswered_12, if_neg b26]; exact e9)) (fun z9 e9 => K2 z9 (by simp only [x_ga_isAnswered_12, if_neg b26]; exact e9))
      · have b26 := z_b1 b26
        refine q_aload_n (by first | assumption | omega | decide) dX4_isAnswered_29 rfl ?_
        refine q_aload_n (by first | assumption | omega | decide) dX4_isAnswered_30 rfl ?_
        refine q_iload dX4_isAnswered_31 rfl ?_
        refine q_iload_n dX4_isAnswered_33 rfl ?_
        refine q_iconst (v := 1) dX4_isAnswered_34 rfl ?_
        refine q_iload dX4_isAnswered_35 rfl ?_
        refine q_shl1N (a := k) (by omega) dX4_isAnswered_37 ?_
        have g37 : 2 ^ k < 2 ^ 8 := Nat.pow_lt_pow_right (by decide) (by omega)
        refine q_iorN (a := m) (b := 2 ^ k) dX4_isAnswered_38 ?_
        have g38 : m ||| (2 ^ k) < 2 ^ 8 := Nat.or_lt_two_pow (by omega) (by omega)
        refine q_iload dX4_isAnswered_39 rfl ?_
        refine q_iconst (v := 1) dX4_isAnswered_41 rfl ?_
        refine q_iaddN (a := dp) (b := 1) dX4_isAnswered_42 ?_
        change q_W _ _ _ _ _ _ _ _ _ _ [.int (nI (dp + 1)), .int (nI (m ||| (2 ^ k))), .int (nI (k)), .ref (q), .ref (c)] _
        rcases x1 : H k (m ||| (2 ^ k)) won_12 lost_12 with ⟨v1, y1_won, y1_lost⟩
        have e9 := IH (by omega) (g := g) (h := hh) (d := d - 1) sga_12 sat_12 k (m ||| (2 ^ k)) (by omega) (by omega) (by omega)
        rw [x1] at e9
        refine q_invV (mc' := 0) (ms' := 0) (d' := d - 1) (as := [.ref (q), .int (nI (k)), .int (nI (m ||| (2 ^ k))), .int (nI (dp + 1))]) dX4_isAnswered_43 kM_X4_holds kL_X4_29 kI_X4_holds kS_X4_holds rfl (kC_X4.1) sga_12.c0 rfl rfl (Nat.le_of_ble_eq_true rfl) (by omega) (by decide) (by omega) (by omega) (e9) (q_kC (fun h2 hB => ?_)) q_xC
        obtain ⟨t2_0, t2_1, pp2⟩ := hB
        have sga2 := t2_0
        have sat2 := t2_1
        have p2 := pH.trans (pp2.wide (by omega) (by omega))
        change q_W _ _ _ _ _ _ _ _ 46 [.ref (c), .ref (q), q_u, .int (nI (m)), .int (nI (dp)), .int ((f j) &&& ((nI (m)) ^^^ (-1 : Int32))), .int (nI (k))] [.int (z_b (v1))] _
        refine q_if_eq 51 dX4_isAnswered_46 (by decide) (fun b46 => ?_) (fun b46 => ?_)
        · have b46 := z_b0n b46
          refine q_iinc (x := nI (k)) (v := nI (k + 1)) dX4_isAnswered_51 rfl (nI_add _ 1) rfl ?_
          change q_W _ _ _ _ _ _ _ _ _ [.ref (c), .ref (q), q_u, .int (nI (m)), .int (nI (dp)), .int ((f j) &&& ((nI (m)) ^^^ (-1 : Int32))), .int (nI (k + 1))] [] _
          refine q_goto 12 dX4_isAnswered_54 (by decide) ?_
          change q_W _ _ _ _ _ _ _ _ _ [.ref (c), .ref (q), q_u, .int (nI (m)), .int (nI (dp)), .int ((f j) &&& ((nI (m)) ^^^ (-1 : Int32))), .int (nI (k + 1))] [] _
          exact ih (k + 1) y1_lost y1_won h2 sga2 sat2 p2 (by omega) (fun r12_0 r12_1 e9 => K r12_0 r12_1 (by simp only [x_ga_isAnswered_12, if_pos b26, x1, if_neg b46]; exact e9)) (fun z9 e9 => K2 z9 (by simp only [x_ga_isAnswered_12, if_pos b26, x1, if_neg b46]; exact e9))
        · have b46 := z_b1 b46
          refine q_iconst (v := 1) dX4_isAnswered_49 rfl ?_
          exact q_ireturn dX4_isAnswered_50 rfl rfl (by omega) (by omega) (K2 (true, y1_won, y1_lost) (by simp only [x_ga_isAnswered_12, if_pos b26, x1, if_pos b46]) _ _ ⟨rfl, sga2, sat2, p2⟩)
def x_ga_isAnswered (won : Nat → Int32) (lost : Nat → Int32) (f : Nat → Int32) (j : Nat) (m : Nat) (H : Nat → Nat → (Nat → Int32) → (Nat → Int32) → Bool × (Nat → Int32) × (Nat → Int32)) : (Bool) × (Nat → Int32) × (Nat → Int32) := (match x_ga_isAnswered_12 f j m H 8 0 lost won with | .inl (a3_0, a3_1) => (false, a3_1, a3_0) | .inr zz => zz)
set_option maxRecDepth 100000 in
set_option maxHeartbeats 8000000 in
theorem e_ga_isAnswered {g : q_G} {h : q_H} {d : Nat} {c : Nat} {won : Nat → Int32} {lost : Nat → Int32} (sga : z_Ga h c won lost) {q : Nat} {f : Nat → Int32} (sat : z_I8 h q f) {H : Nat → Nat → (Nat → Int32) → (Nat → Int32) → Bool × (Nat → Int32) × (Nat → Int32)} (j : Nat) (m : Nat) (dp : Nat) (hj : j < 8) (hm : m < 2 ^ 8) (hs : q + 1 ≤ c ∨ c + 3 ≤ q) (hdp : dp ≤ 8) (IH : dp ≤ 8 → ∀ {g : q_G} {h : q_H} {d : Nat} {won lost : Nat → Int32} (sga : z_Ga h c won lost) (sat : z_I8 h q f) (j m : Nat) (hj : j < 8) (hm : m < 2 ^ 8) (hd : 2 * (8 - dp) + 2 ≤ d), q_Spec g mX4_holds d 0 0 [.ref c, .ref q, .int (nI j), .int (nI m), .int (nI (dp + 1))] h (q_chg (.inl (some (.int (z_b (H j m won lost).1)))) (fun h1 => z_Ga h1 c (H j m won lost).2.1 (H j m won lost).2.2 ∧ z_I8 h1 q f ∧ q_same h h1 c 3))) (hd : 2 * (8 - dp) + 3 ≤ d) : q_Spec g mX4_isAnswered d 0 0 [.ref (c), .ref (q), .int (nI (j)), .int (nI (m)), .int (nI (dp))] h (q_chg (.inl (some (.int (z_b (x_ga_isAnswered won lost f j m H).1)))) (fun h1 => z_Ga h1 c ((x_ga_isAnswered won lost f j m H).2.1) ((x_ga_isAnswered won lost f j m H).2.2) ∧ z_I8 h1 q f ∧ q_same h h1 c 3)) := by
  have hr_ga := sga.r0
  have hr_at := sat.r0
  have p0 : q_same h h c 3 := q_same.rfl'
  refine q_enter (by decide +kernel) rfl rfl (Nat.le_of_ble_eq_true rfl) (fun hz => ?_)
  change q_W _ _ _ _ _ _ _ _ _ [.ref (c), .ref (q), .int (nI (j)), .int (nI (m)), .int (nI (dp)), q_u, q_u] [] _
  refine q_aload_n (by first | assumption | omega | decide) dX4_isAnswered_0 rfl ?_
  refine q_iload_n dX4_isAnswered_1 rfl ?_
  refine q_ialdN (j := j) (f := f) dX4_isAnswered_2 sat.c0 (by omega) (by decide) ?_
  change q_W _ _ _ _ _ _ _ _ _ _ [.int (f j)] _
  refine q_iload_n dX4_isAnswered_3 rfl ?_
  refine q_iconst (v := -1) dX4_isAnswered_4 rfl ?_
  refine q_ixor dX4_isAnswered_5 ?_
  refine q_iand dX4_isAnswered_6 ?_
  refine q_istore dX4_isAnswered_7 (by decide) rfl ?_
  change q_W _ _ _ _ _ _ _ _ _ [.ref (c), .ref (q), .int (nI (j)), .int (nI (m)), .int (nI (dp)), .int ((f j) &&& ((nI (m)) ^^^ (-1 : Int32))), q_u] [] _
  refine q_iconst (v := 0) dX4_isAnswered_9 rfl ?_
  refine q_istore dX4_isAnswered_10 (by decide) rfl ?_
  change q_W _ _ _ _ _ _ _ _ _ [.ref (c), .ref (q), .int (nI (j)), .int (nI (m)), .int (nI (dp)), .int ((f j) &&& ((nI (m)) ^^^ (-1 : Int32))), .int (0)] [] _
  refine q_forget 2 ?_
  change q_W _ _ _ _ _ _ _ _ _ [.ref (c), .ref (q), q_u, .int (nI (m)), .int (nI (dp)), .int ((f j) &&& ((nI (m)) ^^^ (-1 : Int32))), .int (0)] [] _
  refine l_ga_isAnswered_12 hr_ga hr_at hj hm hs hdp IH (by omega) (by omega) (by omega) 8 0 lost won h sga sat p0 (by omega) (fun a3_0 a3_1 x3 h4 sga4 sat4 p4 => ?_) (fun zz x3 => ?_)
  · change q_W _ _ _ _ _ _ _ _ 57 [q_u, q_u, q_u, q_u, q_u, q_u, q_u] [] _
    refine q_iconst (v := 0) dX4_isAnswered_57 rfl ?_
    have hE : x_ga_isAnswered won lost f j m H = (false, a3_1, a3_0) := by simp only [x_ga_isAnswered, x3]
    rw [hE]
    exact q_ireturn dX4_isAnswered_58 rfl rfl (by omega) (by omega) ⟨rfl, sga4, sat4, p4⟩
  · have hE : x_ga_isAnswered won lost f j m H = zz := by simp only [x_ga_isAnswered, x3]
    rw [hE]
    exact fun _ _ q9 => q9
def x_ga_holds_40 (f : Nat → Int32) (j : Nat) (m : Nat) (A : Nat → Nat → (Nat → Int32) → (Nat → Int32) → Bool × (Nat → Int32) × (Nat → Int32)) : Nat → Nat → (Nat → Int32) → (Nat → Int32) → ((Nat → Int32) × (Nat → Int32)) ⊕ ((Bool) × (Nat → Int32) × (Nat → Int32))
  | 0, _, lost_40, won_40 => .inl (lost_40, won_40)
  | r + 1, k, lost_40, won_40 => (if z_has (f j) k then (match A k m won_40 lost_40 with | (v1, y1_won, y1_lost) => (if v1 then x_ga_holds_40 f j m A r (k + 1) y1_lost y1_won else .inr (false, y1_won, upd y1_lost m ((y1_lost m) ||| ((1 : Int32) <<< ((nI (j)) &&& 31)))))) else x_ga_holds_40 f j m A r (k + 1) lost_40 won_40)
set_option maxRecDepth 100000 in
set_option maxHeartbeats 8000000 in
theorem l_ga_holds_40 {g : q_G} {h : q_H} {d mc ms kc ks : Nat} {Q : q_O → q_H → Prop} {c : Nat} {q : Nat} {f : Nat → Int32} {j : Nat} {m : Nat} {dp : Nat} {A : Nat → Nat → (Nat → Int32) → (Nat → Int32) → Bool × (Nat → Int32) × (Nat → Int32)}  (hr_ga : q_R0 ≤ c) (hr_at : q_R0 ≤ q) (hj : j < 8) (hm : m < 2 ^ 8) (hs : q + 1 ≤ c ∨ c + 3 ≤ q) (hdp : dp ≤ 9) (b4 : ¬ (8 < dp)) (IA : dp ≤ 8 → ∀ {g : q_G} {h : q_H} {d : Nat} {won lost : Nat → Int32} (sga : z_Ga h c won lost) (sat : z_I8 h q f) (j m : Nat) (hj : j < 8) (hm : m < 2 ^ 8) (hd : 2 * (8 - dp) + 3 ≤ d), q_Spec g mX4_isAnswered d 0 0 [.ref c, .ref q, .int (nI j), .int (nI m), .int (nI (dp))] h (q_chg (.inl (some (.int (z_b (A j m won lost).1)))) (fun h1 => z_Ga h1 c (A j m won lost).2.1 (A j m won lost).2.2 ∧ z_I8 h1 q f ∧ q_same h h1 c 3))) (hd : 2 * (9 - dp) + 2 ≤ d) (hkc : kc + 0 ≤ mc) (hks : ks + 0 ≤ ms) : ∀ (r k : Nat) (lost_40 : Nat → Int32) (won_40 : Nat → Int32) (hh : q_H) (sga_40 : z_Ga hh c won_40 lost_40) (sat_40 : z_I8 hh q f) (pH : q_same h hh c 3) (hk_40 : k + r = 8) (K : ∀ (r40_0 : Nat → Int32) (r40_1 : Nat → Int32), x_ga_holds_40 f j m A r k lost_40 won_40 = .inl (r40_0, r40_1) → ∀ h2, z_Ga h2 c r40_1 r40_0 → z_I8 h2 q f → q_same h h2 c 3 → q_W g mX4_holds d mc ms Q kc ks 91 [.ref (c), q_u, .int (nI (j)), .int (nI (m)), q_u, q_u] [] h2) (K2 : ∀ z, x_ga_holds_40 f j m A r k lost_40 won_40 = .inr z → ∀ o h1, q_chg (.inl (some (.int (z_b z.1)))) (fun h1 => z_Ga h1 c z.2.1 z.2.2 ∧ z_I8 h1 q f ∧ q_same h h1 c 3) o h1 → Q o h1), q_W g mX4_holds d mc ms Q kc ks 40 [.ref (c), .ref (q), .int (nI (j)), .int (nI (m)), .int (nI (dp)), .int (nI (k))] [] hh := by
  intro r
  induction r with
  | zero =>
    intro k lost_40 won_40 hh sga_40 sat_40 pH hk_40 K K2
    have hr_ga := sga_40.r0
    have hr_at := sat_40.r0
    refine q_iload dX4_holds_40 rfl ?_
    refine q_bipush (v := 8) dX4_holds_42 rfl ?_
    refine q_icmp_ge 91 dX4_holds_44 (by decide) (fun b44 => ?_) (fun b44 => ?_)
    · have b44 := (nI_leI (a := 8) (b := k) (by omega) (by omega)).mp b44
      refine q_forget 1 ?_
      refine q_forget 4 ?_
      refine q_forget 5 ?_
      change q_W _ _ _ _ _ _ _ _ _ [.ref (c), q_u, .int (nI (j)), .int (nI (m)), q_u, q_u] [] _
      exact K lost_40 won_40 (by simp only [x_ga_holds_40]) hh sga_40 sat_40 pH
    · have b44 : ¬ (8 ≤ k) := fun q => b44 ((nI_leI (a := 8) (b := k) (by omega) (by omega)).mpr q)
      exact absurd b44 (by omega)
  | succ r ih =>
    intro k lost_40 won_40 hh sga_40 sat_40 pH hk_40 K K2
    have hr_ga := sga_40.r0
    have hr_at := sat_40.r0
    refine q_iload dX4_holds_40 rfl ?_
    refine q_bipush (v := 8) dX4_holds_42 rfl ?_
    refine q_icmp_ge 91 dX4_holds_44 (by decide) (fun b44 => ?_) (fun b44 => ?_)
    · have b44 := (nI_leI (a := 8) (b := k) (by omega) (by omega)).mp b44
      exact absurd b44 (by omega)
    · have b44 : ¬ (8 ≤ k) := fun q => b44 ((nI_leI (a := 8) (b := k) (by omega) (by omega)).mpr q)
      refine q_aload_n (by first | assumption | omega | decide) dX4_holds_47 rfl ?_
      refine q_iload_n dX4_holds_48 rfl ?_
      refine q_ialdN (j := j) (f := f) dX4_holds_49 sat_40.c0 (by omega) (by decide) ?_
      change q_W _ _ _ _ _ _ _ _ _ _ [.int (f j)] _
      refine q_iload dX4_holds_50 rfl ?_
      refine q_invSN (mc' := 0) (ms' := 0) (d' := d - 1) (as := [.int (f j), .int (nI (k))]) dX4_holds_52 kM_X10_has kN_X4_33 kT_X10_has rfl rfl rfl (Nat.le_of_ble_eq_true rfl) (by omega) (by decide) (by omega) (by omega) (e_has (d := d - 1)) (q_kR ?_) q_xR
      change q_W _ _ _ _ _ _ _ _ 55 [.ref (c), .ref (q), .int (nI (j)), .int (nI (m)), .int (nI (dp)), .int (nI (k))] [.int (z_b (z_has (f j) k))] _
      refine q_if_eq 85 dX4_holds_55 (by decide) (fun b55 => ?_) (fun b55 => ?_)
      · have b55 := z_b0n b55
        refine q_iinc (x := nI (k)) (v := nI (k + 1)) dX4_holds_85 rfl (nI_add _ 1) rfl ?_
        change q_W _ _ _ _ _ _ _ _ _ [.ref (c), .ref (q), .int (nI (j)), .int (nI (m)), .int (nI (dp)), .int (nI (k + 1))] [] _
        refine q_goto 40 dX4_holds_88 (by decide) ?_
        change q_W _ _ _ _ _ _ _ _ _ [.ref (c), .ref (q), .int (nI (j)), .int (nI (m)), .int (nI (dp)), .int (nI (k + 1))] [] _
        exact ih (k + 1) lost_40 won_40 hh sga_40 sat_40 pH (by omega) (fun r40_0 r40_1 e9 => K r40_0 r40_1 (by simp only [x_ga_holds_40, if_neg b55]; exact e9)) (fun z9 e9 => K2 z9 (by simp only [x_ga_holds_40, if_neg b55]; exact e9))
      · have b55 := z_b1 b55
        refine q_aload_n (by first | assumption | omega | decide) dX4_holds_58 rfl ?_
        refine q_aload_n (by first | assumption | omega | decide) dX4_holds_59 rfl ?_
        refine q_iload dX4_holds_60 rfl ?_
        refine q_iload_n dX4_holds_62 rfl ?_
        refine q_iload dX4_holds_63 rfl ?_
        rcases x1 : A k m won_40 lost_40 with ⟨v1, y1_won, y1_lost⟩
        have e9 := IA (by omega) (g := g) (h := hh) (d := d - 1) sga_40 sat_40 k m (by omega) (by omega) (by omega)
        rw [x1] at e9
        refine q_invV (mc' := 0) (ms' := 0) (d' := d - 1) (as := [.ref (q), .int (nI (k)), .int (nI (m)), .int (nI (dp))]) dX4_holds_65 kM_X4_isAnswered kL_X4_37 kI_X4_isAnswered kS_X4_isAnswered rfl (kC_X4.1) sga_40.c0 rfl rfl (Nat.le_of_ble_eq_true rfl) (by omega) (by decide) (by omega) (by omega) (e9) (q_kC (fun h2 hB => ?_)) q_xC
        obtain ⟨t2_0, t2_1, pp2⟩ := hB
        have sga2 := t2_0
        have sat2 := t2_1
        have p2 := pH.trans (pp2.wide (by omega) (by omega))
        change q_W _ _ _ _ _ _ _ _ 68 [.ref (c), .ref (q), .int (nI (j)), .int (nI (m)), .int (nI (dp)), .int (nI (k))] [.int (z_b (v1))] _
        refine q_if_ne 85 dX4_holds_68 (by decide) (fun b68 => ?_) (fun b68 => ?_)
        · have b68 := z_b1 b68
          refine q_iinc (x := nI (k)) (v := nI (k + 1)) dX4_holds_85 rfl (nI_add _ 1) rfl ?_
          change q_W _ _ _ _ _ _ _ _ _ [.ref (c), .ref (q), .int (nI (j)), .int (nI (m)), .int (nI (dp)), .int (nI (k + 1))] [] _
          refine q_goto 40 dX4_holds_88 (by decide) ?_
          change q_W _ _ _ _ _ _ _ _ _ [.ref (c), .ref (q), .int (nI (j)), .int (nI (m)), .int (nI (dp)), .int (nI (k + 1))] [] _
          exact ih (k + 1) y1_lost y1_won h2 sga2 sat2 p2 (by omega) (fun r40_0 r40_1 e9 => K r40_0 r40_1 (by simp only [x_ga_holds_40, if_pos b55, x1, if_pos b68]; exact e9)) (fun z9 e9 => K2 z9 (by simp only [x_ga_holds_40, if_pos b55, x1, if_pos b68]; exact e9))
        · have b68 := z_b0n b68
          refine q_aload_n (by first | assumption | omega | decide) dX4_holds_71 rfl ?_
          refine q_getf (k := 1) (v := .ref (c + 2)) kC_X4 kL_X4_15 rfl (by decide) dX4_holds_72 sga2.c0 rfl ?_
          refine q_iload_n dX4_holds_75 rfl ?_
          refine q_dup2 dX4_holds_76 rfl rfl ?_
          refine q_ialdN (j := m) (f := y1_lost) dX4_holds_77 sga2.c2 (by omega) (by decide) ?_
          change q_W _ _ _ _ _ _ _ _ _ _ [.int (y1_lost m), .int (nI (m)), .ref (c + 2)] _
          refine q_iconst (v := 1) dX4_holds_78 rfl ?_
          refine q_iload_n dX4_holds_79 rfl ?_
          refine q_ishl dX4_holds_80 ?_
          refine q_ior dX4_holds_81 ?_
          refine q_iastN (j := m) dX4_holds_82 sga2.c2 (by omega) (by decide) ?_
          refine z_genW (B := fun H => z_Ga H c y1_won (upd y1_lost m ((y1_lost m) ||| ((1 : Int32) <<< ((nI (j)) &&& 31)))) ∧ z_I8 H q f ∧ q_same h H c 3) ⟨z_Ga.put2 sga2, sat2.keep (q_same.set (a := c + 2) (k := 1) (Nat.le_refl _) (by omega)) (by omega), p2.trans (q_same.set (by omega) (by omega))⟩ (fun h3 hB => ?_)
          obtain ⟨sga3, sat3, p3⟩ := hB
          refine q_iconst (v := 0) dX4_holds_83 rfl ?_
          exact q_ireturn dX4_holds_84 rfl rfl (by omega) (by omega) (K2 (false, y1_won, upd y1_lost m ((y1_lost m) ||| ((1 : Int32) <<< ((nI (j)) &&& 31)))) (by simp only [x_ga_holds_40, if_pos b55, x1, if_neg b68]) _ _ ⟨rfl, sga3, sat3, p3⟩)
def x_ga_holds (won : Nat → Int32) (lost : Nat → Int32) (f : Nat → Int32) (j : Nat) (m : Nat) (dp : Nat) (A : Nat → Nat → (Nat → Int32) → (Nat → Int32) → Bool × (Nat → Int32) × (Nat → Int32)) : (Bool) × (Nat → Int32) × (Nat → Int32) := (if 8 < dp then (false, won, lost) else (if z_has (lost m) j then (false, won, lost) else (if z_has (won m) j then (true, won, lost) else (match x_ga_holds_40 f j m A 8 0 lost won with | .inl (a4_0, a4_1) => (true, upd a4_1 m ((a4_1 m) ||| ((1 : Int32) <<< ((nI (j)) &&& 31))), a4_0) | .inr zz => zz))))
set_option maxRecDepth 100000 in
set_option maxHeartbeats 8000000 in
theorem e_ga_holds {g : q_G} {h : q_H} {d : Nat} {c : Nat} {won : Nat → Int32} {lost : Nat → Int32} (sga : z_Ga h c won lost) {q : Nat} {f : Nat → Int32} (sat : z_I8 h q f) {A : Nat → Nat → (Nat → Int32) → (Nat → Int32) → Bool × (Nat → Int32) × (Nat → Int32)} (j : Nat) (m : Nat) (dp : Nat) (hj : j < 8) (hm : m < 2 ^ 8) (hs : q + 1 ≤ c ∨ c + 3 ≤ q) (hdp : dp ≤ 9) (IA : dp ≤ 8 → ∀ {g : q_G} {h : q_H} {d : Nat} {won lost : Nat → Int32} (sga : z_Ga h c won lost) (sat : z_I8 h q f) (j m : Nat) (hj : j < 8) (hm : m < 2 ^ 8) (hd : 2 * (8 - dp) + 3 ≤ d), q_Spec g mX4_isAnswered d 0 0 [.ref c, .ref q, .int (nI j), .int (nI m), .int (nI (dp))] h (q_chg (.inl (some (.int (z_b (A j m won lost).1)))) (fun h1 => z_Ga h1 c (A j m won lost).2.1 (A j m won lost).2.2 ∧ z_I8 h1 q f ∧ q_same h h1 c 3))) (hd : 2 * (9 - dp) + 2 ≤ d) : q_Spec g mX4_holds d 0 0 [.ref (c), .ref (q), .int (nI (j)), .int (nI (m)), .int (nI (dp))] h (q_chg (.inl (some (.int (z_b (x_ga_holds won lost f j m dp A).1)))) (fun h1 => z_Ga h1 c ((x_ga_holds won lost f j m dp A).2.1) ((x_ga_holds won lost f j m dp A).2.2) ∧ z_I8 h1 q f ∧ q_same h h1 c 3)) := by
  have hr_ga := sga.r0
  have hr_at := sat.r0
  have p0 : q_same h h c 3 := q_same.rfl'
  refine q_enter (by decide +kernel) rfl rfl (Nat.le_of_ble_eq_true rfl) (fun hz => ?_)
  change q_W _ _ _ _ _ _ _ _ _ [.ref (c), .ref (q), .int (nI (j)), .int (nI (m)), .int (nI (dp)), q_u] [] _
  refine q_iload dX4_holds_0 rfl ?_
  refine q_bipush (v := 8) dX4_holds_2 rfl ?_
  refine q_icmp_gt 20 dX4_holds_4 (by decide) (fun b4 => ?_) (fun b4 => ?_)
  · have b4 := (nI_ltI (a := 8) (b := dp) (by omega) (by omega)).mp b4
    refine q_iconst (v := 0) dX4_holds_20 rfl ?_
    have hE : x_ga_holds won lost f j m dp A = (false, won, lost) := by simp only [x_ga_holds, if_pos b4]
    rw [hE]
    exact q_ireturn dX4_holds_21 rfl rfl (by omega) (by omega) ⟨rfl, sga, sat, p0⟩
  · have b4 : ¬ (8 < dp) := fun q => b4 ((nI_ltI (a := 8) (b := dp) (by omega) (by omega)).mpr q)
    refine q_aload_n (by first | assumption | omega | decide) dX4_holds_7 rfl ?_
    refine q_getf (k := 1) (v := .ref (c + 2)) kC_X4 kL_X4_15 rfl (by decide) dX4_holds_8 sga.c0 rfl ?_
    refine q_iload_n dX4_holds_11 rfl ?_
    refine q_ialdN (j := m) (f := lost) dX4_holds_12 sga.c2 (by omega) (by decide) ?_
    change q_W _ _ _ _ _ _ _ _ _ _ [.int (lost m)] _
    refine q_iload_n dX4_holds_13 rfl ?_
    refine q_invSN (mc' := 0) (ms' := 0) (d' := d - 1) (as := [.int (lost m), .int (nI (j))]) dX4_holds_14 kM_X10_has kN_X4_33 kT_X10_has rfl rfl rfl (Nat.le_of_ble_eq_true rfl) (by omega) (by decide) (by omega) (by omega) (e_has (d := d - 1)) (q_kR ?_) q_xR
    change q_W _ _ _ _ _ _ _ _ 17 [.ref (c), .ref (q), .int (nI (j)), .int (nI (m)), .int (nI (dp)), q_u] [.int (z_b (z_has (lost m) j))] _
    refine q_if_eq 22 dX4_holds_17 (by decide) (fun b17 => ?_) (fun b17 => ?_)
    · have b17 := z_b0n b17
      refine q_aload_n (by first | assumption | omega | decide) dX4_holds_22 rfl ?_
      refine q_getf (k := 0) (v := .ref (c + 1)) kC_X4 kL_X4_9 rfl (by decide) dX4_holds_23 sga.c0 rfl ?_
      refine q_iload_n dX4_holds_26 rfl ?_
      refine q_ialdN (j := m) (f := won) dX4_holds_27 sga.c1 (by omega) (by decide) ?_
      change q_W _ _ _ _ _ _ _ _ _ _ [.int (won m)] _
      refine q_iload_n dX4_holds_28 rfl ?_
      refine q_invSN (mc' := 0) (ms' := 0) (d' := d - 1) (as := [.int (won m), .int (nI (j))]) dX4_holds_29 kM_X10_has kN_X4_33 kT_X10_has rfl rfl rfl (Nat.le_of_ble_eq_true rfl) (by omega) (by decide) (by omega) (by omega) (e_has (d := d - 1)) (q_kR ?_) q_xR
      change q_W _ _ _ _ _ _ _ _ 32 [.ref (c), .ref (q), .int (nI (j)), .int (nI (m)), .int (nI (dp)), q_u] [.int (z_b (z_has (won m) j))] _
      refine q_if_eq 37 dX4_holds_32 (by decide) (fun b32 => ?_) (fun b32 => ?_)
      · have b32 := z_b0n b32
        refine q_iconst (v := 0) dX4_holds_37 rfl ?_
        refine q_istore dX4_holds_38 (by decide) rfl ?_
        change q_W _ _ _ _ _ _ _ _ _ [.ref (c), .ref (q), .int (nI (j)), .int (nI (m)), .int (nI (dp)), .int (0)] [] _
        change q_W _ _ _ _ _ _ _ _ _ [.ref (c), .ref (q), .int (nI (j)), .int (nI (m)), .int (nI (dp)), .int (0)] [] _
        refine l_ga_holds_40 hr_ga hr_at hj hm hs hdp b4 IA (by omega) (by omega) (by omega) 8 0 lost won h sga sat p0 (by omega) (fun a4_0 a4_1 x4 h5 sga5 sat5 p5 => ?_) (fun zz x4 => ?_)
        · change q_W _ _ _ _ _ _ _ _ 91 [.ref (c), q_u, .int (nI (j)), .int (nI (m)), q_u, q_u] [] _
          refine q_aload_n (by first | assumption | omega | decide) dX4_holds_91 rfl ?_
          refine q_getf (k := 0) (v := .ref (c + 1)) kC_X4 kL_X4_9 rfl (by decide) dX4_holds_92 sga5.c0 rfl ?_
          refine q_iload_n dX4_holds_95 rfl ?_
          refine q_dup2 dX4_holds_96 rfl rfl ?_
          refine q_ialdN (j := m) (f := a4_1) dX4_holds_97 sga5.c1 (by omega) (by decide) ?_
          change q_W _ _ _ _ _ _ _ _ _ _ [.int (a4_1 m), .int (nI (m)), .ref (c + 1)] _
          refine q_iconst (v := 1) dX4_holds_98 rfl ?_
          refine q_iload_n dX4_holds_99 rfl ?_
          refine q_ishl dX4_holds_100 ?_
          refine q_ior dX4_holds_101 ?_
          refine q_iastN (j := m) dX4_holds_102 sga5.c1 (by omega) (by decide) ?_
          refine z_genW (B := fun H => z_Ga H c (upd a4_1 m ((a4_1 m) ||| ((1 : Int32) <<< ((nI (j)) &&& 31)))) a4_0 ∧ z_I8 H q f ∧ q_same h H c 3) ⟨z_Ga.put1 sga5, sat5.keep (q_same.set (a := c + 1) (k := 1) (Nat.le_refl _) (by omega)) (by omega), p5.trans (q_same.set (by omega) (by omega))⟩ (fun h6 hB => ?_)
          obtain ⟨sga6, sat6, p6⟩ := hB
          refine q_iconst (v := 1) dX4_holds_103 rfl ?_
          have hE : x_ga_holds won lost f j m dp A = (true, upd a4_1 m ((a4_1 m) ||| ((1 : Int32) <<< ((nI (j)) &&& 31))), a4_0) := by simp only [x_ga_holds, if_neg b4, if_neg b17, if_neg b32, x4]
          rw [hE]
          exact q_ireturn dX4_holds_104 rfl rfl (by omega) (by omega) ⟨rfl, sga6, sat6, p6⟩
        · have hE : x_ga_holds won lost f j m dp A = zz := by simp only [x_ga_holds, if_neg b4, if_neg b17, if_neg b32, x4]
          rw [hE]
          exact fun _ _ q9 => q9
      · have b32 := z_b1 b32
        refine q_iconst (v := 1) dX4_holds_35 rfl ?_
        have hE : x_ga_holds won lost f j m dp A = (true, won, lost) := by simp only [x_ga_holds, if_neg b4, if_neg b17, if_pos b32]
        rw [hE]
        exact q_ireturn dX4_holds_36 rfl rfl (by omega) (by omega) ⟨rfl, sga, sat, p0⟩
    · have b17 := z_b1 b17
      refine q_iconst (v := 0) dX4_holds_20 rfl ?_
      have hE : x_ga_holds won lost f j m dp A = (false, won, lost) := by simp only [x_ga_holds, if_neg b4, if_pos b17]
      rw [hE]
      exact q_ireturn dX4_holds_21 rfl rfl (by omega) (by omega) ⟨rfl, sga, sat, p0⟩
/-- the game from a slot: r moves of the proponent may still follow -/
def x_hold (f : Nat → Int32) : Nat → Nat → Nat → (Nat → Int32) → (Nat → Int32) → Bool × (Nat → Int32) × (Nat → Int32)
  | 0 => fun _ _ won lost => (false, won, lost)
  | r + 1 => fun j m won lost => x_ga_holds won lost f j m (8 - r) fun j m won lost => x_ga_isAnswered won lost f j m (x_hold f r)
theorem e_hold {c q : Nat} {f : Nat → Int32} (hs : q + 1 ≤ c ∨ c + 3 ≤ q) : ∀ (r dp : Nat), r + dp = 9 → ∀ {g : q_G} {h : q_H} {d : Nat} {won lost : Nat → Int32} (sga : z_Ga h c won lost) (sat : z_I8 h q f) (j m : Nat) (hj : j < 8) (hm : m < 2 ^ 8) (hd : 2 * (9 - dp) + 2 ≤ d), q_Spec g mX4_holds d 0 0 [.ref c, .ref q, .int (nI j), .int (nI m), .int (nI dp)] h (q_chg (.inl (some (.int (z_b (x_hold f r j m won lost).1)))) (fun h1 => z_Ga h1 c (x_hold f r j m won lost).2.1 (x_hold f r j m won lost).2.2 ∧ z_I8 h1 q f ∧ q_same h h1 c 3)) := by
  intro r
  induction r with
  | zero =>
    intro dp hr g h d won lost sga sat j m hj hm hd
    obtain rfl : dp = 9 := by omega
    have e := e_ga_holds (g := g) (A := fun _ _ w l => (false, w, l)) sga sat j m 9 hj hm hs (by omega) (fun z => absurd z (by omega)) hd
    have x : x_ga_holds won lost f j m 9 (fun _ _ w l => (false, w, l)) = (false, won, lost) := by
      simp only [x_ga_holds, if_pos (show 8 < 9 by decide)]
    rw [x] at e
    exact e
  | succ r ih =>
    intro dp hr g h d won lost sga sat j m hj hm hd
    obtain rfl : dp = 8 - r := by omega
    exact e_ga_holds (A := fun j m won lost => x_ga_isAnswered won lost f j m (x_hold f r)) sga sat j m (8 - r) hj hm hs (by omega)
      (fun _ => fun {g1 h1 d1 w1 l1} sga1 sat1 j1 m1 hj1 hm1 hd1 => e_ga_isAnswered (H := x_hold f r) sga1 sat1 j1 m1 (8 - r) hj1 hm1 hs (by omega)
        (fun _ => fun {g2 h2 d2 w2 l2} sga2 sat2 j2 m2 hj2 hm2 hd2 => ih (8 - r + 1) (by omega) sga2 sat2 j2 m2 hj2 hm2 (by omega)) hd1) hd
def x_ga_isWonByProponent (won : Nat → Int32) (lost : Nat → Int32) (att : Nat → Int32) (j : Nat) : (Bool) × (Nat → Int32) × (Nat → Int32) := (let y1_f := x_J7_fill won 0; (let y3_f := x_J7_fill lost 0; (match x_hold att 8 j (2 ^ j) y1_f y3_f with | (v5, y5_won, y5_lost) => (v5, y5_won, y5_lost))))
set_option maxRecDepth 100000 in
set_option maxHeartbeats 8000000 in
theorem e_ga_isWonByProponent {g : q_G} {h : q_H} {d : Nat} {c : Nat} {won : Nat → Int32} {lost : Nat → Int32} (sga : z_Ga h c won lost) {a : Nat} {n : Nat} {id : Nat → Int32} {wt : Nat → Int32} {ag : Nat → Int32} {tg : Nat → Int32} {att : Nat → Int32} {ni : Int32} {dy : Int32} {mn : Nat} {mv : Nat → Int32} {en : Int32} {wo : Int32} {br : Int32} (sst : z_S2 h a n id wt ag tg att ni dy mn mv en wo br)  (j : Nat) (hj : j < 8) (hs : a + 8 ≤ c ∨ c + 3 ≤ a)  (hd : 19 ≤ d) : q_Spec g mX4_isWonByProponent d 0 0 [.ref (c), .ref (a), .int (nI (j))] h (q_chg (.inl (some (.int (z_b (x_ga_isWonByProponent won lost att j).1)))) (fun h1 => z_Ga h1 c ((x_ga_isWonByProponent won lost att j).2.1) ((x_ga_isWonByProponent won lost att j).2.2) ∧ z_S2 h1 a n id wt ag tg att ni dy mn mv en wo br ∧ q_same h h1 c 3)) := by
  have hr_ga := sga.r0
  have hr_st := sst.r0
  have hb_st_n := sst.bn
  have hb_st_mn := sst.bmn
  have ho_st_n := sst.bn
  have ho_st_mn := sst.bmn
  have p0 : q_same h h c 3 := q_same.rfl'
  refine q_enter (by decide +kernel) rfl rfl (Nat.le_of_ble_eq_true rfl) (fun hz => ?_)
  change q_W _ _ _ _ _ _ _ _ _ [.ref (c), .ref (a), .int (nI (j))] [] _
  refine q_aload_n (by first | assumption | omega | decide) dX4_isWonByProponent_0 rfl ?_
  refine q_getf (k := 0) (v := .ref (c + 1)) kC_X4 kL_X4_9 rfl (by decide) dX4_isWonByProponent_1 sga.c0 rfl ?_
  refine q_iconst (v := 0) dX4_isWonByProponent_4 rfl ?_
  obtain ⟨y1_f, x1⟩ : ∃ z, x_J7_fill won 0 = z := ⟨_, rfl⟩
  have e9 := e_J7_fill (g := g) (h := h) (d := d - 1) (sga.p1) 0 (by omega)
  rw [x1] at e9
  refine q_invS (mc' := 0) (ms' := 0) (d' := d - 1) (as := [.ref (c + 1), .int (0)]) dX4_isWonByProponent_5 kM_J7_fill_53178 kL_X4_18 kT_J7_fill_53178 rfl rfl rfl (Nat.le_of_ble_eq_true rfl) (by omega) (by decide) (by omega) (by omega) (e9) (q_kC (fun h2 hB => ?_)) q_xC
  obtain ⟨t2_0, pp2⟩ := hB
  have sga2 := sga.ofp1 t2_0 pp2
  have sst2 := sst.keep pp2 (by omega)
  have p2 := p0.trans (pp2.wide (by omega) (by omega))
  change q_W _ _ _ _ _ _ _ _ 8 [.ref (c), .ref (a), .int (nI (j))] [] _
  refine q_aload_n (by first | assumption | omega | decide) dX4_isWonByProponent_8 rfl ?_
  refine q_getf (k := 1) (v := .ref (c + 2)) kC_X4 kL_X4_15 rfl (by decide) dX4_isWonByProponent_9 sga2.c0 rfl ?_
  refine q_iconst (v := 0) dX4_isWonByProponent_12 rfl ?_
  obtain ⟨y3_f, x3⟩ : ∃ z, x_J7_fill lost 0 = z := ⟨_, rfl⟩
  have e9 := e_J7_fill (g := g) (h := h2) (d := d - 1) (sga2.p2) 0 (by omega)
  rw [x3] at e9
  refine q_invS (mc' := 0) (ms' := 0) (d' := d - 1) (as := [.ref (c + 2), .int (0)]) dX4_isWonByProponent_13 kM_J7_fill_53178 kL_X4_18 kT_J7_fill_53178 rfl rfl rfl (Nat.le_of_ble_eq_true rfl) (by omega) (by decide) (by omega) (by omega) (e9) (q_kC (fun h4 hB => ?_)) q_xC
  obtain ⟨t4_0, pp4⟩ := hB
  have sga4 := sga2.ofp2 t4_0 pp4
  have sst4 := sst2.keep pp4 (by omega)
  have p4 := p2.trans (pp4.wide (by omega) (by omega))
  change q_W _ _ _ _ _ _ _ _ 16 [.ref (c), .ref (a), .int (nI (j))] [] _
  refine q_aload_n (by first | assumption | omega | decide) dX4_isWonByProponent_16 rfl ?_
  refine q_aload_n (by first | assumption | omega | decide) dX4_isWonByProponent_17 rfl ?_
  refine q_getf (k := 4) (v := .ref (a + 5)) kC_X8 kL_X4_24 rfl (by decide) dX4_isWonByProponent_18 sst4.c0 rfl ?_
  refine q_iload_n dX4_isWonByProponent_21 rfl ?_
  refine q_iconst (v := 1) dX4_isWonByProponent_22 rfl ?_
  refine q_iload_n dX4_isWonByProponent_23 rfl ?_
  refine q_shl1N (a := j) (by omega) dX4_isWonByProponent_24 ?_
  have g24 : 2 ^ j < 2 ^ 8 := Nat.pow_lt_pow_right (by decide) (by omega)
  refine q_iconst (v := 1) dX4_isWonByProponent_25 rfl ?_
  rcases x5 : x_hold att 8 j (2 ^ j) y1_f y3_f with ⟨v5, y5_won, y5_lost⟩
  have e9 := e_hold (by omega) 8 1 rfl (g := g) (h := h4) (d := d - 1) sga4 (sst4.p5) j (2 ^ j) (by omega) (by omega) (by omega)
  rw [x5] at e9
  refine q_invV (mc' := 0) (ms' := 0) (d' := d - 1) (as := [.ref (a + 5), .int (nI (j)), .int (nI (2 ^ j)), .int (1)]) dX4_isWonByProponent_26 kM_X4_holds kL_X4_29 kI_X4_holds kS_X4_holds rfl (kC_X4.1) sga4.c0 rfl rfl (Nat.le_of_ble_eq_true rfl) (by omega) (by decide) (by omega) (by omega) (e9) (q_kC (fun h6 hB => ?_)) q_xC
  obtain ⟨t6_0, t6_1, pp6⟩ := hB
  have sga6 := t6_0
  have sst6 := sst4.keep pp6 (by omega)
  have p6 := p4.trans (pp6.wide (by omega) (by omega))
  change q_W _ _ _ _ _ _ _ _ 29 [.ref (c), .ref (a), .int (nI (j))] [.int (z_b (v5))] _
  have hE : x_ga_isWonByProponent won lost att j = (v5, y5_won, y5_lost) := by simp only [x_ga_isWonByProponent, x1, x3, x5]
  rw [hE]
  exact q_ireturn dX4_isWonByProponent_29 rfl (z_b_nar _) (by omega) (by omega) ⟨rfl, sga6, sst6, p6⟩
