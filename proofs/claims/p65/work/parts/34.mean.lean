/-- no NaN comes of the division, where there is one -/
def z_nanD (n : Nat) (x : Int32) : Prop := n ≠ 0 → vf_n64 (FP.ddiv (FP.i2d x) (FP.i2d (nI n)))
def z_nanF (n : Nat) (x : Int32) : Prop := n ≠ 0 → vf_n32 (FP.fdiv (FP.i2f x) (FP.i2f (nI n)))
def x_am_meanStrength_25 (wt : Nat → Int32) (ag : Nat → Int32) : Nat → Nat → (Int32) → (Int32)
  | 0, _, c25_1 => c25_1
  | r + 1, k, c25_1 => x_am_meanStrength_25 wt ag r (k + 1) (c25_1 + (x_st_strength wt ag k))
set_option maxRecDepth 100000 in
set_option maxHeartbeats 8000000 in
theorem l_am_meanStrength_25 {g : q_G} {h : q_H} {d mc ms kc ks : Nat} {Q : q_O → q_H → Prop} {hs : Bool} {se : Int32} {sf : Int32} {n : Nat} {id : Nat → Int32} {wt : Nat → Int32} {ag : Nat → Int32} {tg : Nat → Int32} {att : Nat → Int32} {ni : Int32} {dy : Int32} {mn : Nat} {mv : Nat → Int32} {en : Int32} {wo : Int32} {br : Int32} (sam : z_Am h 100 hs se sf) (sst : z_S2 h 101 n id wt ag tg att ni dy mn mv en wo br)  (hnan : z_nanD n (x_am_meanStrength_25 wt ag n 0 0)) (ho_st_n : n ≤ 8) (ho_st_mn : mn ≤ 12) (b7 : ¬ (n = 0))  (hd : 1 ≤ d) (hkc : kc + 0 ≤ mc) (hks : ks + 0 ≤ ms) : ∀ (r k : Nat) (c25_1 : Int32) (hk_25 : k + r = n) (K : ∀ (r25_0 : Int32), x_am_meanStrength_25 wt ag r k c25_1 = r25_0 → q_W g mX10_meanStrength d mc ms Q kc ks 53 [.ref (100), .int (r25_0), q_u] [] h), q_W g mX10_meanStrength d mc ms Q kc ks 25 [.ref (100), .int (c25_1), .int (nI (k))] [] h := by
  intro r
  induction r with
  | zero =>
    intro k c25_1  hk_25 K
    have hb_st_n := sst.bn
    have hb_st_mn := sst.bmn
    refine q_iload_n dX10_meanStrength_25 rfl ?_
    refine q_aload_n (by first | assumption | omega | decide | (rw [q_R0e]; omega)) dX10_meanStrength_26 rfl ?_
    refine q_getf (k := 0) (v := .ref (101)) kC_X10 kL_X10_12 rfl (by decide) dX10_meanStrength_27 sam.c0 rfl ?_
    refine q_getf (k := 6) (v := .int (nI (n))) kC_X8 kL_X10_121 rfl (by decide) dX10_meanStrength_30 sst.c0 rfl ?_
    refine q_icmp_ge 53 dX10_meanStrength_33 (by decide) (fun b33 => ?_) (fun b33 => ?_)
    · have b33 := (nI_leI (a := n) (b := k) (by omega) (by omega)).mp b33
      refine q_forget 2 ?_
      change q_W _ _ _ _ _ _ _ _ _ [.ref (100), .int (c25_1), q_u] [] _
      exact K c25_1 (by simp only [x_am_meanStrength_25])
    · have b33 : ¬ (n ≤ k) := fun q => b33 ((nI_leI (a := n) (b := k) (by omega) (by omega)).mpr q)
      exact absurd b33 (by omega)
  | succ r ih =>
    intro k c25_1  hk_25 K
    have hb_st_n := sst.bn
    have hb_st_mn := sst.bmn
    refine q_iload_n dX10_meanStrength_25 rfl ?_
    refine q_aload_n (by first | assumption | omega | decide | (rw [q_R0e]; omega)) dX10_meanStrength_26 rfl ?_
    refine q_getf (k := 0) (v := .ref (101)) kC_X10 kL_X10_12 rfl (by decide) dX10_meanStrength_27 sam.c0 rfl ?_
    refine q_getf (k := 6) (v := .int (nI (n))) kC_X8 kL_X10_121 rfl (by decide) dX10_meanStrength_30 sst.c0 rfl ?_
    refine q_icmp_ge 53 dX10_meanStrength_33 (by decide) (fun b33 => ?_) (fun b33 => ?_)
    · have b33 := (nI_leI (a := n) (b := k) (by omega) (by omega)).mp b33
      exact absurd b33 (by omega)
    · have b33 : ¬ (n ≤ k) := fun q => b33 ((nI_leI (a := n) (b := k) (by omega) (by omega)).mpr q)
      refine q_iload_n dX10_meanStrength_36 rfl ?_
      refine q_aload_n (by first | assumption | omega | decide | (rw [q_R0e]; omega)) dX10_meanStrength_37 rfl ?_
      refine q_getf (k := 0) (v := .ref (101)) kC_X10 kL_X10_12 rfl (by decide) dX10_meanStrength_38 sam.c0 rfl ?_
      refine q_iload_n dX10_meanStrength_41 rfl ?_
      refine q_invV (mc' := 0) (ms' := 0) (d' := d - 1) (as := [.int (nI (k))]) dX10_meanStrength_42 kM_X8_strength kL_X10_145 kI_X8_strength kS_X8_strength rfl (kC_X8.1) sst.c0 rfl rfl (Nat.le_of_ble_eq_true rfl) (by omega) (by decide) (by omega) (by omega) (e_st_strength (d := d - 1) sst k (by omega) (by omega)) (q_kR ?_) q_xR
      change q_W _ _ _ _ _ _ _ _ 45 [.ref (100), .int (c25_1), .int (nI (k))] [.int (x_st_strength wt ag k), .int (c25_1)] _
      refine q_iadd dX10_meanStrength_45 ?_
      refine q_istore_n dX10_meanStrength_46 (by decide) rfl ?_
      change q_W _ _ _ _ _ _ _ _ _ [.ref (100), .int (c25_1 + (x_st_strength wt ag k)), .int (nI (k))] [] _
      refine q_iinc (x := nI (k)) (v := nI (k + 1)) dX10_meanStrength_47 rfl (nI_add _ 1) rfl ?_
      change q_W _ _ _ _ _ _ _ _ _ [.ref (100), .int (c25_1 + (x_st_strength wt ag k)), .int (nI (k + 1))] [] _
      refine q_goto 25 dX10_meanStrength_50 (by decide) ?_
      change q_W _ _ _ _ _ _ _ _ _ [.ref (100), .int (c25_1 + (x_st_strength wt ag k)), .int (nI (k + 1))] [] _
      exact ih (k + 1) (c25_1 + (x_st_strength wt ag k)) (by omega) (fun r25_0 e9 => K r25_0 (by simp only [x_am_meanStrength_25]; exact e9))
def x_am_meanStrength (n : Nat) (wt : Nat → Int32) (ag : Nat → Int32) : UInt64 ⊕ String := (if n = 0 then .inr "java/lang/ArithmeticException" else (let a1_0 := x_am_meanStrength_25 wt ag n 0 0; .inl (FP.ddiv (FP.i2d (a1_0)) (FP.i2d (nI (n))))))
set_option maxRecDepth 100000 in
set_option maxHeartbeats 8000000 in
theorem e_am_meanStrength {g : q_G} {h : q_H} {d : Nat} {hs : Bool} {se : Int32} {sf : Int32} (sam : z_Am h 100 hs se sf) {n : Nat} {id : Nat → Int32} {wt : Nat → Int32} {ag : Nat → Int32} {tg : Nat → Int32} {att : Nat → Int32} {ni : Int32} {dy : Int32} {mn : Nat} {mv : Nat → Int32} {en : Int32} {wo : Int32} {br : Int32} (sst : z_S2 h 101 n id wt ag tg att ni dy mn mv en wo br)   (hnan : z_nanD n (x_am_meanStrength_25 wt ag n 0 0))  (hd : 7 ≤ d) : q_Spec g mX10_meanStrength d 1 6 [.ref (100)] h (q_out (q_oD (x_am_meanStrength n wt ag)) h) := by
  have hb_st_n := sst.bn
  have hb_st_mn := sst.bmn
  have ho_st_n := sst.bn
  have ho_st_mn := sst.bmn
  refine q_enter (by decide +kernel) rfl rfl (Nat.le_of_ble_eq_true rfl) (fun hz => ?_)
  change q_W _ _ _ _ _ _ _ _ _ [.ref (100), q_u, q_u] [] _
  refine q_aload_n (by first | assumption | omega | decide | (rw [q_R0e]; omega)) dX10_meanStrength_0 rfl ?_
  refine q_getf (k := 0) (v := .ref (101)) kC_X10 kL_X10_12 rfl (by decide) dX10_meanStrength_1 sam.c0 rfl ?_
  refine q_getf (k := 6) (v := .int (nI (n))) kC_X8 kL_X10_121 rfl (by decide) dX10_meanStrength_4 sst.c0 rfl ?_
  refine q_if_ne 21 dX10_meanStrength_7 (by decide) (fun b7 => ?_) (fun b7 => ?_)
  · have b7 : ¬ (n = 0) := fun q => b7 ((nI_eq (a := n) (b := 0) (by omega) (by omega)).mpr q)
    refine q_iconst (v := 0) dX10_meanStrength_21 rfl ?_
    refine q_istore_n dX10_meanStrength_22 (by decide) rfl ?_
    change q_W _ _ _ _ _ _ _ _ _ [.ref (100), .int (0), q_u] [] _
    refine q_iconst (v := 0) dX10_meanStrength_23 rfl ?_
    refine q_istore_n dX10_meanStrength_24 (by decide) rfl ?_
    change q_W _ _ _ _ _ _ _ _ _ [.ref (100), .int (0), .int (0)] [] _
    change q_W _ _ _ _ _ _ _ _ _ [.ref (100), .int (0), .int (0)] [] _
    refine l_am_meanStrength_25 sam sst hnan ho_st_n ho_st_mn b7 (by omega) (by omega) (by omega) n 0 0 (by omega) (fun a1_0 x1 => ?_)
    change q_W _ _ _ _ _ _ _ _ 53 [.ref (100), .int (a1_0), q_u] [] _
    refine q_iload_n dX10_meanStrength_53 rfl ?_
    refine q_i2d dX10_meanStrength_54 ?_
    refine q_aload_n (by first | assumption | omega | decide | (rw [q_R0e]; omega)) dX10_meanStrength_55 rfl ?_
    refine q_getf (k := 0) (v := .ref (101)) kC_X10 kL_X10_12 rfl (by decide) dX10_meanStrength_56 sam.c0 rfl ?_
    refine q_getf (k := 6) (v := .int (nI (n))) kC_X8 kL_X10_121 rfl (by decide) dX10_meanStrength_59 sst.c0 rfl ?_
    refine q_i2d dX10_meanStrength_62 ?_
    refine q_ddiv dX10_meanStrength_63 (by rw [← x1]; exact hnan (by omega)) ?_
    have hE : x_am_meanStrength n wt ag = .inl (FP.ddiv (FP.i2d (a1_0)) (FP.i2d (nI (n)))) := by simp only [x_am_meanStrength, if_neg b7, x1]
    rw [hE]
    exact q_dreturn dX10_meanStrength_64 rfl (by omega) (by omega) ⟨rfl, rfl⟩
  · have b7 := (nI_eq (a := n) (b := 0) (by omega) (by omega)).mp b7
    have hE : x_am_meanStrength n wt ag = .inr "java/lang/ArithmeticException" := by simp only [x_am_meanStrength, if_pos b7]
    rw [hE]
    refine q_throwW kE_X10_285 kR_X10_283 rfl dX10_meanStrength_10 dX10_meanStrength_13 dX10_meanStrength_14 dX10_meanStrength_17 dX10_meanStrength_20 (Nat.le_of_ble_eq_true rfl) (by omega) (by omega) (by omega) ?_
    exact q_xout rfl ⟨rfl, rfl⟩ (by omega) (by omega)
def x_am_acceptedShare (n : Nat) (att : Nat → Int32) (ac : Int32) (rj : Int32) (ro : Nat → Int32) : (UInt32 ⊕ String) × (Int32) × (Int32) × (Nat → Int32) := (if n = 0 then (.inr "java/lang/ArithmeticException", ac, rj, ro) else (match x_am_acceptedCount n att ro with | (v1, y1_ac, y1_rj, y1_ro) => (.inl (FP.fdiv (FP.i2f (v1)) (FP.i2f (nI (n)))), y1_ac, y1_rj, y1_ro)))
set_option maxRecDepth 100000 in
set_option maxHeartbeats 8000000 in
theorem e_am_acceptedShare {g : q_G} {h : q_H} {d : Nat} {hs : Bool} {se : Int32} {sf : Int32} (sam : z_Am h 100 hs se sf) {n : Nat} {id : Nat → Int32} {wt : Nat → Int32} {ag : Nat → Int32} {tg : Nat → Int32} {att : Nat → Int32} {ni : Int32} {dy : Int32} {mn : Nat} {mv : Nat → Int32} {en : Int32} {wo : Int32} {br : Int32} (sst : z_S2 h 101 n id wt ag tg att ni dy mn mv en wo br) {ac : Int32} {rj : Int32} {ro : Nat → Int32} (slb : z_Lb h 199 ac rj ro)   (hnan : z_nanF n ((x_am_acceptedCount n att ro).1))  (hd : 7 ≤ d) : q_Spec g mX10_acceptedShare d 1 6 [.ref (100)] h (q_chg (q_oF (x_am_acceptedShare n att ac rj ro).1) (fun h1 => z_Am h1 100 hs se sf ∧ z_S2 h1 101 n id wt ag tg att ni dy mn mv en wo br ∧ z_Lb h1 199 ((x_am_acceptedShare n att ac rj ro).2.1) ((x_am_acceptedShare n att ac rj ro).2.2.1) ((x_am_acceptedShare n att ac rj ro).2.2.2) ∧ q_same h h1 199 2)) := by
  have hb_st_n := sst.bn
  have hb_st_mn := sst.bmn
  have ho_st_n := sst.bn
  have ho_st_mn := sst.bmn
  have p0 : q_same h h 199 2 := q_same.rfl'
  refine q_enter (by decide +kernel) rfl rfl (Nat.le_of_ble_eq_true rfl) (fun hz => ?_)
  change q_W _ _ _ _ _ _ _ _ _ [.ref (100)] [] _
  refine q_aload_n (by first | assumption | omega | decide | (rw [q_R0e]; omega)) dX10_acceptedShare_0 rfl ?_
  refine q_getf (k := 0) (v := .ref (101)) kC_X10 kL_X10_12 rfl (by decide) dX10_acceptedShare_1 sam.c0 rfl ?_
  refine q_getf (k := 6) (v := .int (nI (n))) kC_X8 kL_X10_121 rfl (by decide) dX10_acceptedShare_4 sst.c0 rfl ?_
  refine q_if_ne 21 dX10_acceptedShare_7 (by decide) (fun b7 => ?_) (fun b7 => ?_)
  · have b7 : ¬ (n = 0) := fun q => b7 ((nI_eq (a := n) (b := 0) (by omega) (by omega)).mpr q)
    refine q_aload_n (by first | assumption | omega | decide | (rw [q_R0e]; omega)) dX10_acceptedShare_21 rfl ?_
    rcases x1 : x_am_acceptedCount n att ro with ⟨v1, y1_ac, y1_rj, y1_ro⟩
    have e9 := e_am_acceptedCount (g := g) (h := h) (d := d - 1) sam sst slb (by omega)
    rw [x1] at e9
    refine q_invV (mc' := 0) (ms' := 0) (d' := d - 1) (as := []) dX10_acceptedShare_22 kM_X10_acceptedCount kL_X10_286 kI_X10_acceptedCount kS_X10_acceptedCount rfl (kC_X10.1) sam.c0 rfl rfl (Nat.le_of_ble_eq_true rfl) (by omega) (by decide) (by omega) (by omega) (e9) (q_kC (fun h2 hB => ?_)) q_xC
    obtain ⟨t2_0, t2_1, t2_2, pp2⟩ := hB
    have sam2 := t2_0
    have sst2 := t2_1
    have slb2 := t2_2
    have p2 := p0.trans (pp2.wide (by omega) (by omega))
    change q_W _ _ _ _ _ _ _ _ 25 [.ref (100)] [.int (v1)] _
    refine q_i2f dX10_acceptedShare_25 ?_
    refine q_aload_n (by first | assumption | omega | decide | (rw [q_R0e]; omega)) dX10_acceptedShare_26 rfl ?_
    refine q_getf (k := 0) (v := .ref (101)) kC_X10 kL_X10_12 rfl (by decide) dX10_acceptedShare_27 sam2.c0 rfl ?_
    refine q_getf (k := 6) (v := .int (nI (n))) kC_X8 kL_X10_121 rfl (by decide) dX10_acceptedShare_30 sst2.c0 rfl ?_
    refine q_i2f dX10_acceptedShare_33 ?_
    refine q_fdiv dX10_acceptedShare_34 (by have q := hnan (by omega); rw [x1] at q; exact q) ?_
    have hE : x_am_acceptedShare n att ac rj ro = (.inl (FP.fdiv (FP.i2f (v1)) (FP.i2f (nI (n)))), y1_ac, y1_rj, y1_ro) := by simp only [x_am_acceptedShare, if_neg b7, x1]
    rw [hE]
    exact q_freturn dX10_acceptedShare_35 rfl (by omega) (by omega) ⟨rfl, sam2, sst2, slb2, p2⟩
  · have b7 := (nI_eq (a := n) (b := 0) (by omega) (by omega)).mp b7
    have hE : x_am_acceptedShare n att ac rj ro = (.inr "java/lang/ArithmeticException", ac, rj, ro) := by simp only [x_am_acceptedShare, if_pos b7]
    rw [hE]
    refine q_throwW kE_X10_285 kR_X10_283 rfl dX10_acceptedShare_10 dX10_acceptedShare_13 dX10_acceptedShare_14 dX10_acceptedShare_17 dX10_acceptedShare_20 (Nat.le_of_ble_eq_true rfl) (by omega) (by omega) (by omega) ?_
    exact q_xout rfl ⟨rfl, sam.keep (q_same.skip (a := 0) (k := 0)) (Or.inr (Nat.zero_le _)), sst.keep (q_same.skip (a := 0) (k := 0)) (Or.inr (Nat.zero_le _)), slb.keep (q_same.skip (a := 0) (k := 0)) (Or.inr (Nat.zero_le _)), p0.trans q_same.skip⟩ (by omega) (by omega)
