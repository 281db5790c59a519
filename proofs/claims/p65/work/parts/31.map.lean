theorem z_vpin {x : Int32} {n N : Nat} (h1 : ¬ x < 0) (h2 : x < nI n) (hn : n ≤ N) (hN : N < 2 ^ 31) : vp_in x N := by
  obtain ⟨j, hj, rfl⟩ := nI_of h1
  exact vp_in_nI (Nat.lt_of_lt_of_le ((nI_ltI hj (by omega)).mp h2) hn) hN
theorem z_letter_nar (ac rj : Int32) (j : Nat) : narrow .char (.int (x_lb_letter ac rj j)) = .int (x_lb_letter ac rj j) := by
  unfold x_lb_letter
  split
  · rfl
  · split <;> rfl
def x_am_change (s : ZS) (nx : Nat) (kp : Nat) (rw : Nat → ZS) (k : Nat) (xa : Int32) (xb : Int32) : (Int32 ⊕ String) × (ZS) × (Nat) × (Nat) × (Nat → ZS) := (let y1_rw := x_hi_begin nx rw s.1 s.2.1 s.2.2.1 s.2.2.2.1 s.2.2.2.2.1 s.2.2.2.2.2.1 s.2.2.2.2.2.2.1 s.2.2.2.2.2.2.2.1 s.2.2.2.2.2.2.2.2.1 s.2.2.2.2.2.2.2.2.2.1 s.2.2.2.2.2.2.2.2.2.2.1 s.2.2.2.2.2.2.2.2.2.2.2.1 s.2.2.2.2.2.2.2.2.2.2.2.2; (match x_apply k xa xb s with | ((.inl v3), y3_s) => (match x_hi_keep nx kp with | (y5_nx, y5_kp) => (.inl v3, y3_s, y5_nx, y5_kp, y1_rw)) | ((.inr e3), y3_s) => (.inr e3, y3_s, nx, kp, y1_rw)))
set_option maxRecDepth 100000 in
set_option maxHeartbeats 8000000 in
theorem e_am_change {g : q_G} {h : q_H} {d : Nat} {hs : Bool} {se : Int32} {sf : Int32} (sam : z_Am h 100 hs se sf) {s : ZS} (sst : z_S2t h 101 s) {s1 : ZS} (ssv : z_S2t h 109 s1) {s2 : ZS} (slt : z_S2t h 117 s2) {nx : Nat} {kp : Nat} {rw : Nat → ZS} (shs : z_Hs h 125 nx kp rw)  (k : Nat) (xa : Int32) (xb : Int32) (hk : k < 11)  (hd : 11 ≤ d) : q_Spec g mX10_change d 4 24 [.ref (100), .ref (3 + k), .int (xa), .int (xb)] h (q_chg (q_oI (x_am_change s nx kp rw k xa xb).1) (fun h1 => z_Am h1 100 hs se sf ∧ z_S2t h1 101 ((x_am_change s nx kp rw k xa xb).2.1) ∧ z_S2t h1 109 s1 ∧ z_S2t h1 117 s2 ∧ z_Hs h1 125 ((x_am_change s nx kp rw k xa xb).2.2.1) ((x_am_change s nx kp rw k xa xb).2.2.2.1) ((x_am_change s nx kp rw k xa xb).2.2.2.2) ∧ q_same h h1 101 98)) := by
  have hb_hs_nx := shs.bnx
  have hb_hs_kp := shs.bkp
  have ho_hs_nx := shs.bnx
  have ho_hs_kp := shs.bkp
  have p0 : q_same h h 101 98 := q_same.rfl'
  refine q_enter (by decide +kernel) rfl rfl (Nat.le_of_ble_eq_true rfl) (fun hz => ?_)
  change q_W _ _ _ _ _ _ _ _ _ [.ref (100), .ref (3 + k), .int (xa), .int (xb), q_u] [] _
  refine q_aload_n (by first | assumption | omega | decide | (rw [q_R0e]; omega)) dX10_change_0 rfl ?_
  refine q_getf (k := 3) (v := .ref (125)) kC_X10 kL_X10_25 rfl (by decide) dX10_change_1 sam.c0 rfl ?_
  refine q_aload_n (by first | assumption | omega | decide | (rw [q_R0e]; omega)) dX10_change_4 rfl ?_
  refine q_getf (k := 0) (v := .ref (101)) kC_X10 kL_X10_12 rfl (by decide) dX10_change_5 sam.c0 rfl ?_
  obtain ⟨y1_rw, x1⟩ : ∃ z, x_hi_begin nx rw s.1 s.2.1 s.2.2.1 s.2.2.2.1 s.2.2.2.2.1 s.2.2.2.2.2.1 s.2.2.2.2.2.2.1 s.2.2.2.2.2.2.2.1 s.2.2.2.2.2.2.2.2.1 s.2.2.2.2.2.2.2.2.2.1 s.2.2.2.2.2.2.2.2.2.2.1 s.2.2.2.2.2.2.2.2.2.2.2.1 s.2.2.2.2.2.2.2.2.2.2.2.2 = z := ⟨_, rfl⟩
  have e9 := e_hi_begin (g := g) (h := h) (d := d - 1) shs (sst) (by omega)
  rw [x1] at e9
  refine q_invV (mc' := 0) (ms' := 0) (d' := d - 1) (as := [.ref (101)]) dX10_change_8 kM_X5_begin kL_X10_345 kI_X5_begin kS_X5_begin rfl (kC_X5.1) shs.c0 rfl rfl (Nat.le_of_ble_eq_true rfl) (by omega) (by decide) (by omega) (by omega) (e9) (q_kC (fun h2 hB => ?_)) q_xC
  obtain ⟨t2_0, t2_1, pp2⟩ := hB
  have shs2 := t2_0
  have sam2 := sam.keep pp2 (by omega)
  have sst2 := sst.keep pp2 (by omega)
  have ssv2 := ssv.keep pp2 (by omega)
  have slt2 := slt.keep pp2 (by omega)
  have p2 := p0.trans (pp2.wide (by omega) (by omega))
  have hb_hs_nx := shs2.bnx
  have hb_hs_kp := shs2.bkp
  change q_W _ _ _ _ _ _ _ _ 11 [.ref (100), .ref (3 + k), .int (xa), .int (xb), q_u] [] _
  refine q_aload_n (by first | assumption | omega | decide | (rw [q_R0e]; omega)) dX10_change_11 rfl ?_
  refine q_getf (k := 0) (v := .ref (101)) kC_X10 kL_X10_12 rfl (by decide) dX10_change_12 sam2.c0 rfl ?_
  refine q_aload_nK (by omega) dX10_change_15 rfl ?_
  refine q_iload_n dX10_change_16 rfl ?_
  refine q_iload_n dX10_change_17 rfl ?_
  rcases x3 : x_apply k xa xb s with ⟨v3 | e3, y3_s⟩
  · have e9 := e_apply (g := g) (h := h2) (d := d - 1) sst2 (k := k) (by omega) xa xb (by omega)
    rw [x3] at e9
    refine q_invV (mc' := 4) (ms' := 24) (d' := d - 1) (as := [.ref (3 + k), .int (xa), .int (xb)]) dX10_change_18 kM_X8_apply kL_X10_378 kI_X8_apply kS_X8_apply rfl (kC_X8.1) sst2.c0 rfl rfl (Nat.le_of_ble_eq_true rfl) (by omega) (by decide) (by omega) (by omega) (e9) (q_kC (fun h4 hB => ?_)) q_xC
    obtain ⟨t4_0, pp4⟩ := hB
    have sst4 := t4_0
    have sam4 := sam2.keep pp4 (by omega)
    have ssv4 := ssv2.keep pp4 (by omega)
    have slt4 := slt2.keep pp4 (by omega)
    have shs4 := shs2.keep pp4 (by omega)
    have p4 := p2.trans (pp4.wide (by omega) (by omega))
    change q_W _ _ _ _ _ _ _ _ 21 [.ref (100), .ref (3 + k), .int (xa), .int (xb), q_u] [.int (v3)] _
    refine q_istore dX10_change_21 (by decide) rfl ?_
    change q_W _ _ _ _ _ _ _ _ _ [.ref (100), .ref (3 + k), .int (xa), .int (xb), .int (v3)] [] _
    refine q_aload_n (by first | assumption | omega | decide | (rw [q_R0e]; omega)) dX10_change_23 rfl ?_
    refine q_getf (k := 3) (v := .ref (125)) kC_X10 kL_X10_25 rfl (by decide) dX10_change_24 sam4.c0 rfl ?_
    rcases x5 : x_hi_keep nx kp with ⟨y5_nx, y5_kp⟩
    have e9 := e_hi_keep (g := g) (h := h4) (d := d - 1) shs4 (by omega)
    rw [x5] at e9
    refine q_invV (mc' := 0) (ms' := 0) (d' := d - 1) (as := []) dX10_change_27 kM_X5_keep kL_X10_357 kI_X5_keep kS_X5_keep rfl (kC_X5.1) shs4.c0 rfl rfl (Nat.le_of_ble_eq_true rfl) (by omega) (by decide) (by omega) (by omega) (e9) (q_kC (fun h6 hB => ?_)) q_xC
    obtain ⟨t6_0, pp6⟩ := hB
    have shs6 := t6_0
    have sam6 := sam4.keep pp6 (by omega)
    have sst6 := sst4.keep pp6 (by omega)
    have ssv6 := ssv4.keep pp6 (by omega)
    have slt6 := slt4.keep pp6 (by omega)
    have p6 := p4.trans (pp6.wide (by omega) (by omega))
    have hb_hs_nx : y5_nx ≤ 8 := shs6.bnx
    have hb_hs_kp : y5_kp ≤ 8 := shs6.bkp
    change q_W _ _ _ _ _ _ _ _ 30 [.ref (100), .ref (3 + k), .int (xa), .int (xb), .int (v3)] [] _
    refine q_iload dX10_change_30 rfl ?_
    have hE : x_am_change s nx kp rw k xa xb = (.inl v3, y3_s, y5_nx, y5_kp, y1_rw) := by simp only [x_am_change, x1, x3, x5]
    rw [hE]
    exact q_ireturn dX10_change_32 rfl rfl (by omega) (by omega) ⟨rfl, sam6, sst6, ssv6, slt6, shs6, p6⟩
  · have e9 := e_apply (g := g) (h := h2) (d := d - 1) sst2 (k := k) (by omega) xa xb (by omega)
    rw [x3] at e9
    refine q_invV (mc' := 4) (ms' := 24) (d' := d - 1) (as := [.ref (3 + k), .int (xa), .int (xb)]) dX10_change_18 kM_X8_apply kL_X10_378 kI_X8_apply kS_X8_apply rfl (kC_X8.1) sst2.c0 rfl rfl (Nat.le_of_ble_eq_true rfl) (by omega) (by decide) (by omega) (by omega) (e9) q_kCx (q_xCx (fun h7 hB => ?_))
    obtain ⟨t7_0, pp7⟩ := hB
    have sst7 := t7_0
    have sam7 := sam2.keep pp7 (by omega)
    have ssv7 := ssv2.keep pp7 (by omega)
    have slt7 := slt2.keep pp7 (by omega)
    have shs7 := shs2.keep pp7 (by omega)
    have p7 := p2.trans (pp7.wide (by omega) (by omega))
    have hE : x_am_change s nx kp rw k xa xb = (.inr e3, y3_s, nx, kp, y1_rw) := by simp only [x_am_change, x1, x3]
    rw [hE]
    exact q_xout rfl ⟨rfl, sam7, sst7, ssv7, slt7, shs7, p7⟩ (by omega) (by omega)
def x_am_addArgument (s : ZS) (nx : Nat) (kp : Nat) (rw : Nat → ZS) (xa : Int32) : (Int32 ⊕ String) × (ZS) × (Nat) × (Nat) × (Nat → ZS) := (match x_am_change s nx kp rw 0 xa 0 with | ((.inl v1), y1_s, y1_nx, y1_kp, y1_rw) => (.inl v1, y1_s, y1_nx, y1_kp, y1_rw) | ((.inr e1), y1_s, y1_nx, y1_kp, y1_rw) => (.inr e1, y1_s, y1_nx, y1_kp, y1_rw))
set_option maxRecDepth 100000 in
set_option maxHeartbeats 8000000 in
theorem e_am_addArgument {g : q_G} {h : q_H} {d : Nat} {hs : Bool} {se : Int32} {sf : Int32} (sam : z_Am h 100 hs se sf) {s : ZS} (sst : z_S2t h 101 s) {s1 : ZS} (ssv : z_S2t h 109 s1) {s2 : ZS} (slt : z_S2t h 117 s2) {nx : Nat} {kp : Nat} {rw : Nat → ZS} (shs : z_Hs h 125 nx kp rw)  (xa : Int32)   (hd : 12 ≤ d) : q_Spec g mX10_addArgument d 4 24 [.ref (100), .int (xa)] h (q_chg (q_oI (x_am_addArgument s nx kp rw xa).1) (fun h1 => z_Am h1 100 hs se sf ∧ z_S2t h1 101 ((x_am_addArgument s nx kp rw xa).2.1) ∧ z_S2t h1 109 s1 ∧ z_S2t h1 117 s2 ∧ z_Hs h1 125 ((x_am_addArgument s nx kp rw xa).2.2.1) ((x_am_addArgument s nx kp rw xa).2.2.2.1) ((x_am_addArgument s nx kp rw xa).2.2.2.2) ∧ q_same h h1 101 98)) := by
  have hb_hs_nx := shs.bnx
  have hb_hs_kp := shs.bkp
  have ho_hs_nx := shs.bnx
  have ho_hs_kp := shs.bkp
  have p0 : q_same h h 101 98 := q_same.rfl'
  refine q_enter (by decide +kernel) rfl rfl (Nat.le_of_ble_eq_true rfl) (fun hz => ?_)
  change q_W _ _ _ _ _ _ _ _ _ [.ref (100), .int (xa)] [] _
  refine q_aload_n (by first | assumption | omega | decide | (rw [q_R0e]; omega)) dX10_addArgument_0 rfl ?_
  refine q_getstatic (v := .ref (3 + 0)) (by simp [q_zs]) kL_X10_78 rfl dX10_addArgument_1 ?_
  change q_W _ _ _ _ _ _ _ _ 4 [.ref (100), .int (xa)] [.ref (3 + 0), .ref (100)] _
  refine q_iload_n dX10_addArgument_4 rfl ?_
  refine q_iconst (v := 0) dX10_addArgument_5 rfl ?_
  rcases x1 : x_am_change s nx kp rw 0 xa 0 with ⟨v1 | e1, y1_s, y1_nx, y1_kp, y1_rw⟩
  · have e9 := e_am_change (g := g) (h := h) (d := d - 1) sam sst ssv slt shs 0 xa 0 (by omega) (by omega)
    rw [x1] at e9
    refine q_invV (mc' := 4) (ms' := 24) (d' := d - 1) (as := [.ref (3 + 0), .int (xa), .int (0)]) dX10_addArgument_6 kM_X10_change kL_X10_84 kI_X10_change kS_X10_change rfl (kC_X10.1) sam.c0 rfl rfl (Nat.le_of_ble_eq_true rfl) (by omega) (by decide) (by omega) (by omega) (e9) (q_kC (fun h2 hB => ?_)) q_xC
    obtain ⟨t2_0, t2_1, t2_2, t2_3, t2_4, pp2⟩ := hB
    have sam2 := t2_0
    have sst2 := t2_1
    have ssv2 := t2_2
    have slt2 := t2_3
    have shs2 := t2_4
    have p2 := p0.trans (pp2.wide (by omega) (by omega))
    have hb_hs_nx : y1_nx ≤ 8 := shs2.bnx
    have hb_hs_kp : y1_kp ≤ 8 := shs2.bkp
    change q_W _ _ _ _ _ _ _ _ 9 [.ref (100), .int (xa)] [.int (v1)] _
    have hE : x_am_addArgument s nx kp rw xa = (.inl v1, y1_s, y1_nx, y1_kp, y1_rw) := by simp only [x_am_addArgument, x1]
    rw [hE]
    exact q_ireturn dX10_addArgument_9 rfl rfl (by omega) (by omega) ⟨rfl, sam2, sst2, ssv2, slt2, shs2, p2⟩
  · have e9 := e_am_change (g := g) (h := h) (d := d - 1) sam sst ssv slt shs 0 xa 0 (by omega) (by omega)
    rw [x1] at e9
    refine q_invV (mc' := 4) (ms' := 24) (d' := d - 1) (as := [.ref (3 + 0), .int (xa), .int (0)]) dX10_addArgument_6 kM_X10_change kL_X10_84 kI_X10_change kS_X10_change rfl (kC_X10.1) sam.c0 rfl rfl (Nat.le_of_ble_eq_true rfl) (by omega) (by decide) (by omega) (by omega) (e9) q_kCx (q_xCx (fun h3 hB => ?_))
    obtain ⟨t3_0, t3_1, t3_2, t3_3, t3_4, pp3⟩ := hB
    have sam3 := t3_0
    have sst3 := t3_1
    have ssv3 := t3_2
    have slt3 := t3_3
    have shs3 := t3_4
    have p3 := p0.trans (pp3.wide (by omega) (by omega))
    have hb_hs_nx : y1_nx ≤ 8 := shs3.bnx
    have hb_hs_kp : y1_kp ≤ 8 := shs3.bkp
    have hE : x_am_addArgument s nx kp rw xa = (.inr e1, y1_s, y1_nx, y1_kp, y1_rw) := by simp only [x_am_addArgument, x1]
    rw [hE]
    exact q_xout rfl ⟨rfl, sam3, sst3, ssv3, slt3, shs3, p3⟩ (by omega) (by omega)
def x_am_removeArgument (s : ZS) (nx : Nat) (kp : Nat) (rw : Nat → ZS) (xa : Int32) : (Int32 ⊕ String) × (ZS) × (Nat) × (Nat) × (Nat → ZS) := (match x_am_change s nx kp rw 1 xa 0 with | ((.inl v1), y1_s, y1_nx, y1_kp, y1_rw) => (.inl v1, y1_s, y1_nx, y1_kp, y1_rw) | ((.inr e1), y1_s, y1_nx, y1_kp, y1_rw) => (.inr e1, y1_s, y1_nx, y1_kp, y1_rw))
set_option maxRecDepth 100000 in
set_option maxHeartbeats 8000000 in
theorem e_am_removeArgument {g : q_G} {h : q_H} {d : Nat} {hs : Bool} {se : Int32} {sf : Int32} (sam : z_Am h 100 hs se sf) {s : ZS} (sst : z_S2t h 101 s) {s1 : ZS} (ssv : z_S2t h 109 s1) {s2 : ZS} (slt : z_S2t h 117 s2) {nx : Nat} {kp : Nat} {rw : Nat → ZS} (shs : z_Hs h 125 nx kp rw)  (xa : Int32)   (hd : 12 ≤ d) : q_Spec g mX10_removeArgument d 4 24 [.ref (100), .int (xa)] h (q_chg (q_oI (x_am_removeArgument s nx kp rw xa).1) (fun h1 => z_Am h1 100 hs se sf ∧ z_S2t h1 101 ((x_am_removeArgument s nx kp rw xa).2.1) ∧ z_S2t h1 109 s1 ∧ z_S2t h1 117 s2 ∧ z_Hs h1 125 ((x_am_removeArgument s nx kp rw xa).2.2.1) ((x_am_removeArgument s nx kp rw xa).2.2.2.1) ((x_am_removeArgument s nx kp rw xa).2.2.2.2) ∧ q_same h h1 101 98)) := by
  have hb_hs_nx := shs.bnx
  have hb_hs_kp := shs.bkp
  have ho_hs_nx := shs.bnx
  have ho_hs_kp := shs.bkp
  have p0 : q_same h h 101 98 := q_same.rfl'
  refine q_enter (by decide +kernel) rfl rfl (Nat.le_of_ble_eq_true rfl) (fun hz => ?_)
  change q_W _ _ _ _ _ _ _ _ _ [.ref (100), .int (xa)] [] _
  refine q_aload_n (by first | assumption | omega | decide | (rw [q_R0e]; omega)) dX10_removeArgument_0 rfl ?_
  refine q_getstatic (v := .ref (3 + 1)) (by simp [q_zs]) kL_X10_88 rfl dX10_removeArgument_1 ?_
  change q_W _ _ _ _ _ _ _ _ 4 [.ref (100), .int (xa)] [.ref (3 + 1), .ref (100)] _
  refine q_iload_n dX10_removeArgument_4 rfl ?_
  refine q_iconst (v := 0) dX10_removeArgument_5 rfl ?_
  rcases x1 : x_am_change s nx kp rw 1 xa 0 with ⟨v1 | e1, y1_s, y1_nx, y1_kp, y1_rw⟩
  · have e9 := e_am_change (g := g) (h := h) (d := d - 1) sam sst ssv slt shs 1 xa 0 (by omega) (by omega)
    rw [x1] at e9
    refine q_invV (mc' := 4) (ms' := 24) (d' := d - 1) (as := [.ref (3 + 1), .int (xa), .int (0)]) dX10_removeArgument_6 kM_X10_change kL_X10_84 kI_X10_change kS_X10_change rfl (kC_X10.1) sam.c0 rfl rfl (Nat.le_of_ble_eq_true rfl) (by omega) (by decide) (by omega) (by omega) (e9) (q_kC (fun h2 hB => ?_)) q_xC
    obtain ⟨t2_0, t2_1, t2_2, t2_3, t2_4, pp2⟩ := hB
    have sam2 := t2_0
    have sst2 := t2_1
    have ssv2 := t2_2
    have slt2 := t2_3
    have shs2 := t2_4
    have p2 := p0.trans (pp2.wide (by omega) (by omega))
    have hb_hs_nx : y1_nx ≤ 8 := shs2.bnx
    have hb_hs_kp : y1_kp ≤ 8 := shs2.bkp
    change q_W _ _ _ _ _ _ _ _ 9 [.ref (100), .int (xa)] [.int (v1)] _
    have hE : x_am_removeArgument s nx kp rw xa = (.inl v1, y1_s, y1_nx, y1_kp, y1_rw) := by simp only [x_am_removeArgument, x1]
    rw [hE]
    exact q_ireturn dX10_removeArgument_9 rfl rfl (by omega) (by omega) ⟨rfl, sam2, sst2, ssv2, slt2, shs2, p2⟩
  · have e9 := e_am_change (g := g) (h := h) (d := d - 1) sam sst ssv slt shs 1 xa 0 (by omega) (by omega)
    rw [x1] at e9
    refine q_invV (mc' := 4) (ms' := 24) (d' := d - 1) (as := [.ref (3 + 1), .int (xa), .int (0)]) dX10_removeArgument_6 kM_X10_change kL_X10_84 kI_X10_change kS_X10_change rfl (kC_X10.1) sam.c0 rfl rfl (Nat.le_of_ble_eq_true rfl) (by omega) (by decide) (by omega) (by omega) (e9) q_kCx (q_xCx (fun h3 hB => ?_))
    obtain ⟨t3_0, t3_1, t3_2, t3_3, t3_4, pp3⟩ := hB
    have sam3 := t3_0
    have sst3 := t3_1
    have ssv3 := t3_2
    have slt3 := t3_3
    have shs3 := t3_4
    have p3 := p0.trans (pp3.wide (by omega) (by omega))
    have hb_hs_nx : y1_nx ≤ 8 := shs3.bnx
    have hb_hs_kp : y1_kp ≤ 8 := shs3.bkp
    have hE : x_am_removeArgument s nx kp rw xa = (.inr e1, y1_s, y1_nx, y1_kp, y1_rw) := by simp only [x_am_removeArgument, x1]
    rw [hE]
    exact q_xout rfl ⟨rfl, sam3, sst3, ssv3, slt3, shs3, p3⟩ (by omega) (by omega)
def x_am_addAttack (s : ZS) (nx : Nat) (kp : Nat) (rw : Nat → ZS) (xa : Int32) (xb : Int32) : (Int32 ⊕ String) × (ZS) × (Nat) × (Nat) × (Nat → ZS) := (match x_am_change s nx kp rw 2 xa xb with | ((.inl v1), y1_s, y1_nx, y1_kp, y1_rw) => (.inl v1, y1_s, y1_nx, y1_kp, y1_rw) | ((.inr e1), y1_s, y1_nx, y1_kp, y1_rw) => (.inr e1, y1_s, y1_nx, y1_kp, y1_rw))
set_option maxRecDepth 100000 in
set_option maxHeartbeats 8000000 in
theorem e_am_addAttack {g : q_G} {h : q_H} {d : Nat} {hs : Bool} {se : Int32} {sf : Int32} (sam : z_Am h 100 hs se sf) {s : ZS} (sst : z_S2t h 101 s) {s1 : ZS} (ssv : z_S2t h 109 s1) {s2 : ZS} (slt : z_S2t h 117 s2) {nx : Nat} {kp : Nat} {rw : Nat → ZS} (shs : z_Hs h 125 nx kp rw)  (xa : Int32) (xb : Int32)   (hd : 12 ≤ d) : q_Spec g mX10_addAttack d 4 24 [.ref (100), .int (xa), .int (xb)] h (q_chg (q_oI (x_am_addAttack s nx kp rw xa xb).1) (fun h1 => z_Am h1 100 hs se sf ∧ z_S2t h1 101 ((x_am_addAttack s nx kp rw xa xb).2.1) ∧ z_S2t h1 109 s1 ∧ z_S2t h1 117 s2 ∧ z_Hs h1 125 ((x_am_addAttack s nx kp rw xa xb).2.2.1) ((x_am_addAttack s nx kp rw xa xb).2.2.2.1) ((x_am_addAttack s nx kp rw xa xb).2.2.2.2) ∧ q_same h h1 101 98)) := by
  have hb_hs_nx := shs.bnx
  have hb_hs_kp := shs.bkp
  have ho_hs_nx := shs.bnx
  have ho_hs_kp := shs.bkp
  have p0 : q_same h h 101 98 := q_same.rfl'
  refine q_enter (by decide +kernel) rfl rfl (Nat.le_of_ble_eq_true rfl) (fun hz => ?_)
  change q_W _ _ _ _ _ _ _ _ _ [.ref (100), .int (xa), .int (xb)] [] _
  refine q_aload_n (by first | assumption | omega | decide | (rw [q_R0e]; omega)) dX10_addAttack_0 rfl ?_
  refine q_getstatic (v := .ref (3 + 2)) (by simp [q_zs]) kL_X10_91 rfl dX10_addAttack_1 ?_
  change q_W _ _ _ _ _ _ _ _ 4 [.ref (100), .int (xa), .int (xb)] [.ref (3 + 2), .ref (100)] _
  refine q_iload_n dX10_addAttack_4 rfl ?_
  refine q_iload_n dX10_addAttack_5 rfl ?_
  rcases x1 : x_am_change s nx kp rw 2 xa xb with ⟨v1 | e1, y1_s, y1_nx, y1_kp, y1_rw⟩
  · have e9 := e_am_change (g := g) (h := h) (d := d - 1) sam sst ssv slt shs 2 xa xb (by omega) (by omega)
    rw [x1] at e9
    refine q_invV (mc' := 4) (ms' := 24) (d' := d - 1) (as := [.ref (3 + 2), .int (xa), .int (xb)]) dX10_addAttack_6 kM_X10_change kL_X10_84 kI_X10_change kS_X10_change rfl (kC_X10.1) sam.c0 rfl rfl (Nat.le_of_ble_eq_true rfl) (by omega) (by decide) (by omega) (by omega) (e9) (q_kC (fun h2 hB => ?_)) q_xC
    obtain ⟨t2_0, t2_1, t2_2, t2_3, t2_4, pp2⟩ := hB
    have sam2 := t2_0
    have sst2 := t2_1
    have ssv2 := t2_2
    have slt2 := t2_3
    have shs2 := t2_4
    have p2 := p0.trans (pp2.wide (by omega) (by omega))
    have hb_hs_nx : y1_nx ≤ 8 := shs2.bnx
    have hb_hs_kp : y1_kp ≤ 8 := shs2.bkp
    change q_W _ _ _ _ _ _ _ _ 9 [.ref (100), .int (xa), .int (xb)] [.int (v1)] _
    have hE : x_am_addAttack s nx kp rw xa xb = (.inl v1, y1_s, y1_nx, y1_kp, y1_rw) := by simp only [x_am_addAttack, x1]
    rw [hE]
    exact q_ireturn dX10_addAttack_9 rfl rfl (by omega) (by omega) ⟨rfl, sam2, sst2, ssv2, slt2, shs2, p2⟩
  · have e9 := e_am_change (g := g) (h := h) (d := d - 1) sam sst ssv slt shs 2 xa xb (by omega) (by omega)
    rw [x1] at e9
    refine q_invV (mc' := 4) (ms' := 24) (d' := d - 1) (as := [.ref (3 + 2), .int (xa), .int (xb)]) dX10_addAttack_6 kM_X10_change kL_X10_84 kI_X10_change kS_X10_change rfl (kC_X10.1) sam.c0 rfl rfl (Nat.le_of_ble_eq_true rfl) (by omega) (by decide) (by omega) (by omega) (e9) q_kCx (q_xCx (fun h3 hB => ?_))
    obtain ⟨t3_0, t3_1, t3_2, t3_3, t3_4, pp3⟩ := hB
    have sam3 := t3_0
    have sst3 := t3_1
    have ssv3 := t3_2
    have slt3 := t3_3
    have shs3 := t3_4
    have p3 := p0.trans (pp3.wide (by omega) (by omega))
    have hb_hs_nx : y1_nx ≤ 8 := shs3.bnx
    have hb_hs_kp : y1_kp ≤ 8 := shs3.bkp
    have hE : x_am_addAttack s nx kp rw xa xb = (.inr e1, y1_s, y1_nx, y1_kp, y1_rw) := by simp only [x_am_addAttack, x1]
    rw [hE]
    exact q_xout rfl ⟨rfl, sam3, sst3, ssv3, slt3, shs3, p3⟩ (by omega) (by omega)
def x_am_removeAttack (s : ZS) (nx : Nat) (kp : Nat) (rw : Nat → ZS) (xa : Int32) (xb : Int32) : (Int32 ⊕ String) × (ZS) × (Nat) × (Nat) × (Nat → ZS) := (match x_am_change s nx kp rw 3 xa xb with | ((.inl v1), y1_s, y1_nx, y1_kp, y1_rw) => (.inl v1, y1_s, y1_nx, y1_kp, y1_rw) | ((.inr e1), y1_s, y1_nx, y1_kp, y1_rw) => (.inr e1, y1_s, y1_nx, y1_kp, y1_rw))
set_option maxRecDepth 100000 in
set_option maxHeartbeats 8000000 in
theorem e_am_removeAttack {g : q_G} {h : q_H} {d : Nat} {hs : Bool} {se : Int32} {sf : Int32} (sam : z_Am h 100 hs se sf) {s : ZS} (sst : z_S2t h 101 s) {s1 : ZS} (ssv : z_S2t h 109 s1) {s2 : ZS} (slt : z_S2t h 117 s2) {nx : Nat} {kp : Nat} {rw : Nat → ZS} (shs : z_Hs h 125 nx kp rw)  (xa : Int32) (xb : Int32)   (hd : 12 ≤ d) : q_Spec g mX10_removeAttack d 4 24 [.ref (100), .int (xa), .int (xb)] h (q_chg (q_oI (x_am_removeAttack s nx kp rw xa xb).1) (fun h1 => z_Am h1 100 hs se sf ∧ z_S2t h1 101 ((x_am_removeAttack s nx kp rw xa xb).2.1) ∧ z_S2t h1 109 s1 ∧ z_S2t h1 117 s2 ∧ z_Hs h1 125 ((x_am_removeAttack s nx kp rw xa xb).2.2.1) ((x_am_removeAttack s nx kp rw xa xb).2.2.2.1) ((x_am_removeAttack s nx kp rw xa xb).2.2.2.2) ∧ q_same h h1 101 98)) := by
  have hb_hs_nx := shs.bnx
  have hb_hs_kp := shs.bkp
  have ho_hs_nx := shs.bnx
  have ho_hs_kp := shs.bkp
  have p0 : q_same h h 101 98 := q_same.rfl'
  refine q_enter (by decide +kernel) rfl rfl (Nat.le_of_ble_eq_true rfl) (fun hz => ?_)
  change q_W _ _ _ _ _ _ _ _ _ [.ref (100), .int (xa), .int (xb)] [] _
  refine q_aload_n (by first | assumption | omega | decide | (rw [q_R0e]; omega)) dX10_removeAttack_0 rfl ?_
  refine q_getstatic (v := .ref (3 + 3)) (by simp [q_zs]) kL_X10_94 rfl dX10_removeAttack_1 ?_
  change q_W _ _ _ _ _ _ _ _ 4 [.ref (100), .int (xa), .int (xb)] [.ref (3 + 3), .ref (100)] _
  refine q_iload_n dX10_removeAttack_4 rfl ?_
  refine q_iload_n dX10_removeAttack_5 rfl ?_
  rcases x1 : x_am_change s nx kp rw 3 xa xb with ⟨v1 | e1, y1_s, y1_nx, y1_kp, y1_rw⟩
  · have e9 := e_am_change (g := g) (h := h) (d := d - 1) sam sst ssv slt shs 3 xa xb (by omega) (by omega)
    rw [x1] at e9
    refine q_invV (mc' := 4) (ms' := 24) (d' := d - 1) (as := [.ref (3 + 3), .int (xa), .int (xb)]) dX10_removeAttack_6 kM_X10_change kL_X10_84 kI_X10_change kS_X10_change rfl (kC_X10.1) sam.c0 rfl rfl (Nat.le_of_ble_eq_true rfl) (by omega) (by decide) (by omega) (by omega) (e9) (q_kC (fun h2 hB => ?_)) q_xC
    obtain ⟨t2_0, t2_1, t2_2, t2_3, t2_4, pp2⟩ := hB
    have sam2 := t2_0
    have sst2 := t2_1
    have ssv2 := t2_2
    have slt2 := t2_3
    have shs2 := t2_4
    have p2 := p0.trans (pp2.wide (by omega) (by omega))
    have hb_hs_nx : y1_nx ≤ 8 := shs2.bnx
    have hb_hs_kp : y1_kp ≤ 8 := shs2.bkp
    change q_W _ _ _ _ _ _ _ _ 9 [.ref (100), .int (xa), .int (xb)] [.int (v1)] _
    have hE : x_am_removeAttack s nx kp rw xa xb = (.inl v1, y1_s, y1_nx, y1_kp, y1_rw) := by simp only [x_am_removeAttack, x1]
    rw [hE]
    exact q_ireturn dX10_removeAttack_9 rfl rfl (by omega) (by omega) ⟨rfl, sam2, sst2, ssv2, slt2, shs2, p2⟩
  · have e9 := e_am_change (g := g) (h := h) (d := d - 1) sam sst ssv slt shs 3 xa xb (by omega) (by omega)
    rw [x1] at e9
    refine q_invV (mc' := 4) (ms' := 24) (d' := d - 1) (as := [.ref (3 + 3), .int (xa), .int (xb)]) dX10_removeAttack_6 kM_X10_change kL_X10_84 kI_X10_change kS_X10_change rfl (kC_X10.1) sam.c0 rfl rfl (Nat.le_of_ble_eq_true rfl) (by omega) (by decide) (by omega) (by omega) (e9) q_kCx (q_xCx (fun h3 hB => ?_))
    obtain ⟨t3_0, t3_1, t3_2, t3_3, t3_4, pp3⟩ := hB
    have sam3 := t3_0
    have sst3 := t3_1
    have ssv3 := t3_2
    have slt3 := t3_3
    have shs3 := t3_4
    have p3 := p0.trans (pp3.wide (by omega) (by omega))
    have hb_hs_nx : y1_nx ≤ 8 := shs3.bnx
    have hb_hs_kp : y1_kp ≤ 8 := shs3.bkp
    have hE : x_am_removeAttack s nx kp rw xa xb = (.inr e1, y1_s, y1_nx, y1_kp, y1_rw) := by simp only [x_am_removeAttack, x1]
    rw [hE]
    exact q_xout rfl ⟨rfl, sam3, sst3, ssv3, slt3, shs3, p3⟩ (by omega) (by omega)
def x_am_setWeight (s : ZS) (nx : Nat) (kp : Nat) (rw : Nat → ZS) (xa : Int32) (xb : Int32) : (Int32 ⊕ String) × (ZS) × (Nat) × (Nat) × (Nat → ZS) := (match x_am_change s nx kp rw 4 xa xb with | ((.inl v1), y1_s, y1_nx, y1_kp, y1_rw) => (.inl v1, y1_s, y1_nx, y1_kp, y1_rw) | ((.inr e1), y1_s, y1_nx, y1_kp, y1_rw) => (.inr e1, y1_s, y1_nx, y1_kp, y1_rw))
set_option maxRecDepth 100000 in
set_option maxHeartbeats 8000000 in
theorem e_am_setWeight {g : q_G} {h : q_H} {d : Nat} {hs : Bool} {se : Int32} {sf : Int32} (sam : z_Am h 100 hs se sf) {s : ZS} (sst : z_S2t h 101 s) {s1 : ZS} (ssv : z_S2t h 109 s1) {s2 : ZS} (slt : z_S2t h 117 s2) {nx : Nat} {kp : Nat} {rw : Nat → ZS} (shs : z_Hs h 125 nx kp rw)  (xa : Int32) (xb : Int32)   (hd : 12 ≤ d) : q_Spec g mX10_setWeight d 4 24 [.ref (100), .int (xa), .int (xb)] h (q_chg (q_oI (x_am_setWeight s nx kp rw xa xb).1) (fun h1 => z_Am h1 100 hs se sf ∧ z_S2t h1 101 ((x_am_setWeight s nx kp rw xa xb).2.1) ∧ z_S2t h1 109 s1 ∧ z_S2t h1 117 s2 ∧ z_Hs h1 125 ((x_am_setWeight s nx kp rw xa xb).2.2.1) ((x_am_setWeight s nx kp rw xa xb).2.2.2.1) ((x_am_setWeight s nx kp rw xa xb).2.2.2.2) ∧ q_same h h1 101 98)) := by
  have hb_hs_nx := shs.bnx
  have hb_hs_kp := shs.bkp
  have ho_hs_nx := shs.bnx
  have ho_hs_kp := shs.bkp
  have p0 : q_same h h 101 98 := q_same.rfl'
  refine q_enter (by decide +kernel) rfl rfl (Nat.le_of_ble_eq_true rfl) (fun hz => ?_)
  change q_W _ _ _ _ _ _ _ _ _ [.ref (100), .int (xa), .int (xb)] [] _
  refine q_aload_n (by first | assumption | omega | decide | (rw [q_R0e]; omega)) dX10_setWeight_0 rfl ?_
  refine q_getstatic (v := .ref (3 + 4)) (by simp [q_zs]) kL_X10_97 rfl dX10_setWeight_1 ?_
  change q_W _ _ _ _ _ _ _ _ 4 [.ref (100), .int (xa), .int (xb)] [.ref (3 + 4), .ref (100)] _
  refine q_iload_n dX10_setWeight_4 rfl ?_
  refine q_iload_n dX10_setWeight_5 rfl ?_
  rcases x1 : x_am_change s nx kp rw 4 xa xb with ⟨v1 | e1, y1_s, y1_nx, y1_kp, y1_rw⟩
  · have e9 := e_am_change (g := g) (h := h) (d := d - 1) sam sst ssv slt shs 4 xa xb (by omega) (by omega)
    rw [x1] at e9
    refine q_invV (mc' := 4) (ms' := 24) (d' := d - 1) (as := [.ref (3 + 4), .int (xa), .int (xb)]) dX10_setWeight_6 kM_X10_change kL_X10_84 kI_X10_change kS_X10_change rfl (kC_X10.1) sam.c0 rfl rfl (Nat.le_of_ble_eq_true rfl) (by omega) (by decide) (by omega) (by omega) (e9) (q_kC (fun h2 hB => ?_)) q_xC
    obtain ⟨t2_0, t2_1, t2_2, t2_3, t2_4, pp2⟩ := hB
    have sam2 := t2_0
    have sst2 := t2_1
    have ssv2 := t2_2
    have slt2 := t2_3
    have shs2 := t2_4
    have p2 := p0.trans (pp2.wide (by omega) (by omega))
    have hb_hs_nx : y1_nx ≤ 8 := shs2.bnx
    have hb_hs_kp : y1_kp ≤ 8 := shs2.bkp
    change q_W _ _ _ _ _ _ _ _ 9 [.ref (100), .int (xa), .int (xb)] [.int (v1)] _
    have hE : x_am_setWeight s nx kp rw xa xb = (.inl v1, y1_s, y1_nx, y1_kp, y1_rw) := by simp only [x_am_setWeight, x1]
    rw [hE]
    exact q_ireturn dX10_setWeight_9 rfl rfl (by omega) (by omega) ⟨rfl, sam2, sst2, ssv2, slt2, shs2, p2⟩
  · have e9 := e_am_change (g := g) (h := h) (d := d - 1) sam sst ssv slt shs 4 xa xb (by omega) (by omega)
    rw [x1] at e9
    refine q_invV (mc' := 4) (ms' := 24) (d' := d - 1) (as := [.ref (3 + 4), .int (xa), .int (xb)]) dX10_setWeight_6 kM_X10_change kL_X10_84 kI_X10_change kS_X10_change rfl (kC_X10.1) sam.c0 rfl rfl (Nat.le_of_ble_eq_true rfl) (by omega) (by decide) (by omega) (by omega) (e9) q_kCx (q_xCx (fun h3 hB => ?_))
    obtain ⟨t3_0, t3_1, t3_2, t3_3, t3_4, pp3⟩ := hB
    have sam3 := t3_0
    have sst3 := t3_1
    have ssv3 := t3_2
    have slt3 := t3_3
    have shs3 := t3_4
    have p3 := p0.trans (pp3.wide (by omega) (by omega))
    have hb_hs_nx : y1_nx ≤ 8 := shs3.bnx
    have hb_hs_kp : y1_kp ≤ 8 := shs3.bkp
    have hE : x_am_setWeight s nx kp rw xa xb = (.inr e1, y1_s, y1_nx, y1_kp, y1_rw) := by simp only [x_am_setWeight, x1]
    rw [hE]
    exact q_xout rfl ⟨rfl, sam3, sst3, ssv3, slt3, shs3, p3⟩ (by omega) (by omega)
def x_am_renew (s : ZS) (nx : Nat) (kp : Nat) (rw : Nat → ZS) (xa : Int32) : (Int32 ⊕ String) × (ZS) × (Nat) × (Nat) × (Nat → ZS) := (match x_am_change s nx kp rw 5 xa 0 with | ((.inl v1), y1_s, y1_nx, y1_kp, y1_rw) => (.inl v1, y1_s, y1_nx, y1_kp, y1_rw) | ((.inr e1), y1_s, y1_nx, y1_kp, y1_rw) => (.inr e1, y1_s, y1_nx, y1_kp, y1_rw))
set_option maxRecDepth 100000 in
set_option maxHeartbeats 8000000 in
theorem e_am_renew {g : q_G} {h : q_H} {d : Nat} {hs : Bool} {se : Int32} {sf : Int32} (sam : z_Am h 100 hs se sf) {s : ZS} (sst : z_S2t h 101 s) {s1 : ZS} (ssv : z_S2t h 109 s1) {s2 : ZS} (slt : z_S2t h 117 s2) {nx : Nat} {kp : Nat} {rw : Nat → ZS} (shs : z_Hs h 125 nx kp rw)  (xa : Int32)   (hd : 12 ≤ d) : q_Spec g mX10_renew d 4 24 [.ref (100), .int (xa)] h (q_chg (q_oI (x_am_renew s nx kp rw xa).1) (fun h1 => z_Am h1 100 hs se sf ∧ z_S2t h1 101 ((x_am_renew s nx kp rw xa).2.1) ∧ z_S2t h1 109 s1 ∧ z_S2t h1 117 s2 ∧ z_Hs h1 125 ((x_am_renew s nx kp rw xa).2.2.1) ((x_am_renew s nx kp rw xa).2.2.2.1) ((x_am_renew s nx kp rw xa).2.2.2.2) ∧ q_same h h1 101 98)) := by
  have hb_hs_nx := shs.bnx
  have hb_hs_kp := shs.bkp
  have ho_hs_nx := shs.bnx
  have ho_hs_kp := shs.bkp
  have p0 : q_same h h 101 98 := q_same.rfl'
  refine q_enter (by decide +kernel) rfl rfl (Nat.le_of_ble_eq_true rfl) (fun hz => ?_)
  change q_W _ _ _ _ _ _ _ _ _ [.ref (100), .int (xa)] [] _
  refine q_aload_n (by first | assumption | omega | decide | (rw [q_R0e]; omega)) dX10_renew_0 rfl ?_
  refine q_getstatic (v := .ref (3 + 5)) (by simp [q_zs]) kL_X10_100 rfl dX10_renew_1 ?_
  change q_W _ _ _ _ _ _ _ _ 4 [.ref (100), .int (xa)] [.ref (3 + 5), .ref (100)] _
  refine q_iload_n dX10_renew_4 rfl ?_
  refine q_iconst (v := 0) dX10_renew_5 rfl ?_
  rcases x1 : x_am_change s nx kp rw 5 xa 0 with ⟨v1 | e1, y1_s, y1_nx, y1_kp, y1_rw⟩
  · have e9 := e_am_change (g := g) (h := h) (d := d - 1) sam sst ssv slt shs 5 xa 0 (by omega) (by omega)
    rw [x1] at e9
    refine q_invV (mc' := 4) (ms' := 24) (d' := d - 1) (as := [.ref (3 + 5), .int (xa), .int (0)]) dX10_renew_6 kM_X10_change kL_X10_84 kI_X10_change kS_X10_change rfl (kC_X10.1) sam.c0 rfl rfl (Nat.le_of_ble_eq_true rfl) (by omega) (by decide) (by omega) (by omega) (e9) (q_kC (fun h2 hB => ?_)) q_xC
    obtain ⟨t2_0, t2_1, t2_2, t2_3, t2_4, pp2⟩ := hB
    have sam2 := t2_0
    have sst2 := t2_1
    have ssv2 := t2_2
    have slt2 := t2_3
    have shs2 := t2_4
    have p2 := p0.trans (pp2.wide (by omega) (by omega))
    have hb_hs_nx : y1_nx ≤ 8 := shs2.bnx
    have hb_hs_kp : y1_kp ≤ 8 := shs2.bkp
    change q_W _ _ _ _ _ _ _ _ 9 [.ref (100), .int (xa)] [.int (v1)] _
    have hE : x_am_renew s nx kp rw xa = (.inl v1, y1_s, y1_nx, y1_kp, y1_rw) := by simp only [x_am_renew, x1]
    rw [hE]
    exact q_ireturn dX10_renew_9 rfl rfl (by omega) (by omega) ⟨rfl, sam2, sst2, ssv2, slt2, shs2, p2⟩
  · have e9 := e_am_change (g := g) (h := h) (d := d - 1) sam sst ssv slt shs 5 xa 0 (by omega) (by omega)
    rw [x1] at e9
    refine q_invV (mc' := 4) (ms' := 24) (d' := d - 1) (as := [.ref (3 + 5), .int (xa), .int (0)]) dX10_renew_6 kM_X10_change kL_X10_84 kI_X10_change kS_X10_change rfl (kC_X10.1) sam.c0 rfl rfl (Nat.le_of_ble_eq_true rfl) (by omega) (by decide) (by omega) (by omega) (e9) q_kCx (q_xCx (fun h3 hB => ?_))
    obtain ⟨t3_0, t3_1, t3_2, t3_3, t3_4, pp3⟩ := hB
    have sam3 := t3_0
    have sst3 := t3_1
    have ssv3 := t3_2
    have slt3 := t3_3
    have shs3 := t3_4
    have p3 := p0.trans (pp3.wide (by omega) (by omega))
    have hb_hs_nx : y1_nx ≤ 8 := shs3.bnx
    have hb_hs_kp : y1_kp ≤ 8 := shs3.bkp
    have hE : x_am_renew s nx kp rw xa = (.inr e1, y1_s, y1_nx, y1_kp, y1_rw) := by simp only [x_am_renew, x1]
    rw [hE]
    exact q_xout rfl ⟨rfl, sam3, sst3, ssv3, slt3, shs3, p3⟩ (by omega) (by omega)
def x_am_startDialogue (s : ZS) (nx : Nat) (kp : Nat) (rw : Nat → ZS) (xa : Int32) : (Int32 ⊕ String) × (ZS) × (Nat) × (Nat) × (Nat → ZS) := (match x_am_change s nx kp rw 6 xa 0 with | ((.inl v1), y1_s, y1_nx, y1_kp, y1_rw) => (.inl v1, y1_s, y1_nx, y1_kp, y1_rw) | ((.inr e1), y1_s, y1_nx, y1_kp, y1_rw) => (.inr e1, y1_s, y1_nx, y1_kp, y1_rw))
set_option maxRecDepth 100000 in
set_option maxHeartbeats 8000000 in
theorem e_am_startDialogue {g : q_G} {h : q_H} {d : Nat} {hs : Bool} {se : Int32} {sf : Int32} (sam : z_Am h 100 hs se sf) {s : ZS} (sst : z_S2t h 101 s) {s1 : ZS} (ssv : z_S2t h 109 s1) {s2 : ZS} (slt : z_S2t h 117 s2) {nx : Nat} {kp : Nat} {rw : Nat → ZS} (shs : z_Hs h 125 nx kp rw)  (xa : Int32)   (hd : 12 ≤ d) : q_Spec g mX10_startDialogue d 4 24 [.ref (100), .int (xa)] h (q_chg (q_oI (x_am_startDialogue s nx kp rw xa).1) (fun h1 => z_Am h1 100 hs se sf ∧ z_S2t h1 101 ((x_am_startDialogue s nx kp rw xa).2.1) ∧ z_S2t h1 109 s1 ∧ z_S2t h1 117 s2 ∧ z_Hs h1 125 ((x_am_startDialogue s nx kp rw xa).2.2.1) ((x_am_startDialogue s nx kp rw xa).2.2.2.1) ((x_am_startDialogue s nx kp rw xa).2.2.2.2) ∧ q_same h h1 101 98)) := by
  have hb_hs_nx := shs.bnx
  have hb_hs_kp := shs.bkp
  have ho_hs_nx := shs.bnx
  have ho_hs_kp := shs.bkp
  have p0 : q_same h h 101 98 := q_same.rfl'
  refine q_enter (by decide +kernel) rfl rfl (Nat.le_of_ble_eq_true rfl) (fun hz => ?_)
  change q_W _ _ _ _ _ _ _ _ _ [.ref (100), .int (xa)] [] _
  refine q_aload_n (by first | assumption | omega | decide | (rw [q_R0e]; omega)) dX10_startDialogue_0 rfl ?_
  refine q_getstatic (v := .ref (3 + 6)) (by simp [q_zs]) kL_X10_103 rfl dX10_startDialogue_1 ?_
  change q_W _ _ _ _ _ _ _ _ 4 [.ref (100), .int (xa)] [.ref (3 + 6), .ref (100)] _
  refine q_iload_n dX10_startDialogue_4 rfl ?_
  refine q_iconst (v := 0) dX10_startDialogue_5 rfl ?_
  rcases x1 : x_am_change s nx kp rw 6 xa 0 with ⟨v1 | e1, y1_s, y1_nx, y1_kp, y1_rw⟩
  · have e9 := e_am_change (g := g) (h := h) (d := d - 1) sam sst ssv slt shs 6 xa 0 (by omega) (by omega)
    rw [x1] at e9
    refine q_invV (mc' := 4) (ms' := 24) (d' := d - 1) (as := [.ref (3 + 6), .int (xa), .int (0)]) dX10_startDialogue_6 kM_X10_change kL_X10_84 kI_X10_change kS_X10_change rfl (kC_X10.1) sam.c0 rfl rfl (Nat.le_of_ble_eq_true rfl) (by omega) (by decide) (by omega) (by omega) (e9) (q_kC (fun h2 hB => ?_)) q_xC
    obtain ⟨t2_0, t2_1, t2_2, t2_3, t2_4, pp2⟩ := hB
    have sam2 := t2_0
    have sst2 := t2_1
    have ssv2 := t2_2
    have slt2 := t2_3
    have shs2 := t2_4
    have p2 := p0.trans (pp2.wide (by omega) (by omega))
    have hb_hs_nx : y1_nx ≤ 8 := shs2.bnx
    have hb_hs_kp : y1_kp ≤ 8 := shs2.bkp
    change q_W _ _ _ _ _ _ _ _ 9 [.ref (100), .int (xa)] [.int (v1)] _
    have hE : x_am_startDialogue s nx kp rw xa = (.inl v1, y1_s, y1_nx, y1_kp, y1_rw) := by simp only [x_am_startDialogue, x1]
    rw [hE]
    exact q_ireturn dX10_startDialogue_9 rfl rfl (by omega) (by omega) ⟨rfl, sam2, sst2, ssv2, slt2, shs2, p2⟩
  · have e9 := e_am_change (g := g) (h := h) (d := d - 1) sam sst ssv slt shs 6 xa 0 (by omega) (by omega)
    rw [x1] at e9
    refine q_invV (mc' := 4) (ms' := 24) (d' := d - 1) (as := [.ref (3 + 6), .int (xa), .int (0)]) dX10_startDialogue_6 kM_X10_change kL_X10_84 kI_X10_change kS_X10_change rfl (kC_X10.1) sam.c0 rfl rfl (Nat.le_of_ble_eq_true rfl) (by omega) (by decide) (by omega) (by omega) (e9) q_kCx (q_xCx (fun h3 hB => ?_))
    obtain ⟨t3_0, t3_1, t3_2, t3_3, t3_4, pp3⟩ := hB
    have sam3 := t3_0
    have sst3 := t3_1
    have ssv3 := t3_2
    have slt3 := t3_3
    have shs3 := t3_4
    have p3 := p0.trans (pp3.wide (by omega) (by omega))
    have hb_hs_nx : y1_nx ≤ 8 := shs3.bnx
    have hb_hs_kp : y1_kp ≤ 8 := shs3.bkp
    have hE : x_am_startDialogue s nx kp rw xa = (.inr e1, y1_s, y1_nx, y1_kp, y1_rw) := by simp only [x_am_startDialogue, x1]
    rw [hE]
    exact q_xout rfl ⟨rfl, sam3, sst3, ssv3, slt3, shs3, p3⟩ (by omega) (by omega)
def x_am_move (s : ZS) (nx : Nat) (kp : Nat) (rw : Nat → ZS) (xa : Int32) : (Int32 ⊕ String) × (ZS) × (Nat) × (Nat) × (Nat → ZS) := (match x_am_change s nx kp rw 7 xa 0 with | ((.inl v1), y1_s, y1_nx, y1_kp, y1_rw) => (.inl v1, y1_s, y1_nx, y1_kp, y1_rw) | ((.inr e1), y1_s, y1_nx, y1_kp, y1_rw) => (.inr e1, y1_s, y1_nx, y1_kp, y1_rw))
set_option maxRecDepth 100000 in
set_option maxHeartbeats 8000000 in
theorem e_am_move {g : q_G} {h : q_H} {d : Nat} {hs : Bool} {se : Int32} {sf : Int32} (sam : z_Am h 100 hs se sf) {s : ZS} (sst : z_S2t h 101 s) {s1 : ZS} (ssv : z_S2t h 109 s1) {s2 : ZS} (slt : z_S2t h 117 s2) {nx : Nat} {kp : Nat} {rw : Nat → ZS} (shs : z_Hs h 125 nx kp rw)  (xa : Int32)   (hd : 12 ≤ d) : q_Spec g mX10_move d 4 24 [.ref (100), .int (xa)] h (q_chg (q_oI (x_am_move s nx kp rw xa).1) (fun h1 => z_Am h1 100 hs se sf ∧ z_S2t h1 101 ((x_am_move s nx kp rw xa).2.1) ∧ z_S2t h1 109 s1 ∧ z_S2t h1 117 s2 ∧ z_Hs h1 125 ((x_am_move s nx kp rw xa).2.2.1) ((x_am_move s nx kp rw xa).2.2.2.1) ((x_am_move s nx kp rw xa).2.2.2.2) ∧ q_same h h1 101 98)) := by
  have hb_hs_nx := shs.bnx
  have hb_hs_kp := shs.bkp
  have ho_hs_nx := shs.bnx
  have ho_hs_kp := shs.bkp
  have p0 : q_same h h 101 98 := q_same.rfl'
  refine q_enter (by decide +kernel) rfl rfl (Nat.le_of_ble_eq_true rfl) (fun hz => ?_)
  change q_W _ _ _ _ _ _ _ _ _ [.ref (100), .int (xa)] [] _
  refine q_aload_n (by first | assumption | omega | decide | (rw [q_R0e]; omega)) dX10_move_0 rfl ?_
  refine q_getstatic (v := .ref (3 + 7)) (by simp [q_zs]) kL_X10_106 rfl dX10_move_1 ?_
  change q_W _ _ _ _ _ _ _ _ 4 [.ref (100), .int (xa)] [.ref (3 + 7), .ref (100)] _
  refine q_iload_n dX10_move_4 rfl ?_
  refine q_iconst (v := 0) dX10_move_5 rfl ?_
  rcases x1 : x_am_change s nx kp rw 7 xa 0 with ⟨v1 | e1, y1_s, y1_nx, y1_kp, y1_rw⟩
  · have e9 := e_am_change (g := g) (h := h) (d := d - 1) sam sst ssv slt shs 7 xa 0 (by omega) (by omega)
    rw [x1] at e9
    refine q_invV (mc' := 4) (ms' := 24) (d' := d - 1) (as := [.ref (3 + 7), .int (xa), .int (0)]) dX10_move_6 kM_X10_change kL_X10_84 kI_X10_change kS_X10_change rfl (kC_X10.1) sam.c0 rfl rfl (Nat.le_of_ble_eq_true rfl) (by omega) (by decide) (by omega) (by omega) (e9) (q_kC (fun h2 hB => ?_)) q_xC
    obtain ⟨t2_0, t2_1, t2_2, t2_3, t2_4, pp2⟩ := hB
    have sam2 := t2_0
    have sst2 := t2_1
    have ssv2 := t2_2
    have slt2 := t2_3
    have shs2 := t2_4
    have p2 := p0.trans (pp2.wide (by omega) (by omega))
    have hb_hs_nx : y1_nx ≤ 8 := shs2.bnx
    have hb_hs_kp : y1_kp ≤ 8 := shs2.bkp
    change q_W _ _ _ _ _ _ _ _ 9 [.ref (100), .int (xa)] [.int (v1)] _
    have hE : x_am_move s nx kp rw xa = (.inl v1, y1_s, y1_nx, y1_kp, y1_rw) := by simp only [x_am_move, x1]
    rw [hE]
    exact q_ireturn dX10_move_9 rfl rfl (by omega) (by omega) ⟨rfl, sam2, sst2, ssv2, slt2, shs2, p2⟩
  · have e9 := e_am_change (g := g) (h := h) (d := d - 1) sam sst ssv slt shs 7 xa 0 (by omega) (by omega)
    rw [x1] at e9
    refine q_invV (mc' := 4) (ms' := 24) (d' := d - 1) (as := [.ref (3 + 7), .int (xa), .int (0)]) dX10_move_6 kM_X10_change kL_X10_84 kI_X10_change kS_X10_change rfl (kC_X10.1) sam.c0 rfl rfl (Nat.le_of_ble_eq_true rfl) (by omega) (by decide) (by omega) (by omega) (e9) q_kCx (q_xCx (fun h3 hB => ?_))
    obtain ⟨t3_0, t3_1, t3_2, t3_3, t3_4, pp3⟩ := hB
    have sam3 := t3_0
    have sst3 := t3_1
    have ssv3 := t3_2
    have slt3 := t3_3
    have shs3 := t3_4
    have p3 := p0.trans (pp3.wide (by omega) (by omega))
    have hb_hs_nx : y1_nx ≤ 8 := shs3.bnx
    have hb_hs_kp : y1_kp ≤ 8 := shs3.bkp
    have hE : x_am_move s nx kp rw xa = (.inr e1, y1_s, y1_nx, y1_kp, y1_rw) := by simp only [x_am_move, x1]
    rw [hE]
    exact q_xout rfl ⟨rfl, sam3, sst3, ssv3, slt3, shs3, p3⟩ (by omega) (by omega)
def x_am_takeBack (s : ZS) (nx : Nat) (kp : Nat) (rw : Nat → ZS) : (Int32 ⊕ String) × (ZS) × (Nat) × (Nat) × (Nat → ZS) := (match x_am_change s nx kp rw 8 0 0 with | ((.inl v1), y1_s, y1_nx, y1_kp, y1_rw) => (.inl v1, y1_s, y1_nx, y1_kp, y1_rw) | ((.inr e1), y1_s, y1_nx, y1_kp, y1_rw) => (.inr e1, y1_s, y1_nx, y1_kp, y1_rw))
set_option maxRecDepth 100000 in
set_option maxHeartbeats 8000000 in
theorem e_am_takeBack {g : q_G} {h : q_H} {d : Nat} {hs : Bool} {se : Int32} {sf : Int32} (sam : z_Am h 100 hs se sf) {s : ZS} (sst : z_S2t h 101 s) {s1 : ZS} (ssv : z_S2t h 109 s1) {s2 : ZS} (slt : z_S2t h 117 s2) {nx : Nat} {kp : Nat} {rw : Nat → ZS} (shs : z_Hs h 125 nx kp rw)     (hd : 12 ≤ d) : q_Spec g mX10_takeBack d 4 24 [.ref (100)] h (q_chg (q_oI (x_am_takeBack s nx kp rw).1) (fun h1 => z_Am h1 100 hs se sf ∧ z_S2t h1 101 ((x_am_takeBack s nx kp rw).2.1) ∧ z_S2t h1 109 s1 ∧ z_S2t h1 117 s2 ∧ z_Hs h1 125 ((x_am_takeBack s nx kp rw).2.2.1) ((x_am_takeBack s nx kp rw).2.2.2.1) ((x_am_takeBack s nx kp rw).2.2.2.2) ∧ q_same h h1 101 98)) := by
  have hb_hs_nx := shs.bnx
  have hb_hs_kp := shs.bkp
  have ho_hs_nx := shs.bnx
  have ho_hs_kp := shs.bkp
  have p0 : q_same h h 101 98 := q_same.rfl'
  refine q_enter (by decide +kernel) rfl rfl (Nat.le_of_ble_eq_true rfl) (fun hz => ?_)
  change q_W _ _ _ _ _ _ _ _ _ [.ref (100)] [] _
  refine q_aload_n (by first | assumption | omega | decide | (rw [q_R0e]; omega)) dX10_takeBack_0 rfl ?_
  refine q_getstatic (v := .ref (3 + 8)) (by simp [q_zs]) kL_X10_109 rfl dX10_takeBack_1 ?_
  change q_W _ _ _ _ _ _ _ _ 4 [.ref (100)] [.ref (3 + 8), .ref (100)] _
  refine q_iconst (v := 0) dX10_takeBack_4 rfl ?_
  refine q_iconst (v := 0) dX10_takeBack_5 rfl ?_
  rcases x1 : x_am_change s nx kp rw 8 0 0 with ⟨v1 | e1, y1_s, y1_nx, y1_kp, y1_rw⟩
  · have e9 := e_am_change (g := g) (h := h) (d := d - 1) sam sst ssv slt shs 8 0 0 (by omega) (by omega)
    rw [x1] at e9
    refine q_invV (mc' := 4) (ms' := 24) (d' := d - 1) (as := [.ref (3 + 8), .int (0), .int (0)]) dX10_takeBack_6 kM_X10_change kL_X10_84 kI_X10_change kS_X10_change rfl (kC_X10.1) sam.c0 rfl rfl (Nat.le_of_ble_eq_true rfl) (by omega) (by decide) (by omega) (by omega) (e9) (q_kC (fun h2 hB => ?_)) q_xC
    obtain ⟨t2_0, t2_1, t2_2, t2_3, t2_4, pp2⟩ := hB
    have sam2 := t2_0
    have sst2 := t2_1
    have ssv2 := t2_2
    have slt2 := t2_3
    have shs2 := t2_4
    have p2 := p0.trans (pp2.wide (by omega) (by omega))
    have hb_hs_nx : y1_nx ≤ 8 := shs2.bnx
    have hb_hs_kp : y1_kp ≤ 8 := shs2.bkp
    change q_W _ _ _ _ _ _ _ _ 9 [.ref (100)] [.int (v1)] _
    have hE : x_am_takeBack s nx kp rw = (.inl v1, y1_s, y1_nx, y1_kp, y1_rw) := by simp only [x_am_takeBack, x1]
    rw [hE]
    exact q_ireturn dX10_takeBack_9 rfl rfl (by omega) (by omega) ⟨rfl, sam2, sst2, ssv2, slt2, shs2, p2⟩
  · have e9 := e_am_change (g := g) (h := h) (d := d - 1) sam sst ssv slt shs 8 0 0 (by omega) (by omega)
    rw [x1] at e9
    refine q_invV (mc' := 4) (ms' := 24) (d' := d - 1) (as := [.ref (3 + 8), .int (0), .int (0)]) dX10_takeBack_6 kM_X10_change kL_X10_84 kI_X10_change kS_X10_change rfl (kC_X10.1) sam.c0 rfl rfl (Nat.le_of_ble_eq_true rfl) (by omega) (by decide) (by omega) (by omega) (e9) q_kCx (q_xCx (fun h3 hB => ?_))
    obtain ⟨t3_0, t3_1, t3_2, t3_3, t3_4, pp3⟩ := hB
    have sam3 := t3_0
    have sst3 := t3_1
    have ssv3 := t3_2
    have slt3 := t3_3
    have shs3 := t3_4
    have p3 := p0.trans (pp3.wide (by omega) (by omega))
    have hb_hs_nx : y1_nx ≤ 8 := shs3.bnx
    have hb_hs_kp : y1_kp ≤ 8 := shs3.bkp
    have hE : x_am_takeBack s nx kp rw = (.inr e1, y1_s, y1_nx, y1_kp, y1_rw) := by simp only [x_am_takeBack, x1]
    rw [hE]
    exact q_xout rfl ⟨rfl, sam3, sst3, ssv3, slt3, shs3, p3⟩ (by omega) (by omega)
def x_am_endDialogue (s : ZS) (nx : Nat) (kp : Nat) (rw : Nat → ZS) : (Int32 ⊕ String) × (ZS) × (Nat) × (Nat) × (Nat → ZS) := (match x_am_change s nx kp rw 9 0 0 with | ((.inl v1), y1_s, y1_nx, y1_kp, y1_rw) => (.inl (((v1).toUInt32 % 65536).toInt32), y1_s, y1_nx, y1_kp, y1_rw) | ((.inr e1), y1_s, y1_nx, y1_kp, y1_rw) => (.inr e1, y1_s, y1_nx, y1_kp, y1_rw))
set_option maxRecDepth 100000 in
set_option maxHeartbeats 8000000 in
theorem e_am_endDialogue {g : q_G} {h : q_H} {d : Nat} {hs : Bool} {se : Int32} {sf : Int32} (sam : z_Am h 100 hs se sf) {s : ZS} (sst : z_S2t h 101 s) {s1 : ZS} (ssv : z_S2t h 109 s1) {s2 : ZS} (slt : z_S2t h 117 s2) {nx : Nat} {kp : Nat} {rw : Nat → ZS} (shs : z_Hs h 125 nx kp rw)     (hd : 12 ≤ d) : q_Spec g mX10_endDialogue d 4 24 [.ref (100)] h (q_chg (q_oI (x_am_endDialogue s nx kp rw).1) (fun h1 => z_Am h1 100 hs se sf ∧ z_S2t h1 101 ((x_am_endDialogue s nx kp rw).2.1) ∧ z_S2t h1 109 s1 ∧ z_S2t h1 117 s2 ∧ z_Hs h1 125 ((x_am_endDialogue s nx kp rw).2.2.1) ((x_am_endDialogue s nx kp rw).2.2.2.1) ((x_am_endDialogue s nx kp rw).2.2.2.2) ∧ q_same h h1 101 98)) := by
  have hb_hs_nx := shs.bnx
  have hb_hs_kp := shs.bkp
  have ho_hs_nx := shs.bnx
  have ho_hs_kp := shs.bkp
  have p0 : q_same h h 101 98 := q_same.rfl'
  refine q_enter (by decide +kernel) rfl rfl (Nat.le_of_ble_eq_true rfl) (fun hz => ?_)
  change q_W _ _ _ _ _ _ _ _ _ [.ref (100)] [] _
  refine q_aload_n (by first | assumption | omega | decide | (rw [q_R0e]; omega)) dX10_endDialogue_0 rfl ?_
  refine q_getstatic (v := .ref (3 + 9)) (by simp [q_zs]) kL_X10_112 rfl dX10_endDialogue_1 ?_
  change q_W _ _ _ _ _ _ _ _ 4 [.ref (100)] [.ref (3 + 9), .ref (100)] _
  refine q_iconst (v := 0) dX10_endDialogue_4 rfl ?_
  refine q_iconst (v := 0) dX10_endDialogue_5 rfl ?_
  rcases x1 : x_am_change s nx kp rw 9 0 0 with ⟨v1 | e1, y1_s, y1_nx, y1_kp, y1_rw⟩
  · have e9 := e_am_change (g := g) (h := h) (d := d - 1) sam sst ssv slt shs 9 0 0 (by omega) (by omega)
    rw [x1] at e9
    refine q_invV (mc' := 4) (ms' := 24) (d' := d - 1) (as := [.ref (3 + 9), .int (0), .int (0)]) dX10_endDialogue_6 kM_X10_change kL_X10_84 kI_X10_change kS_X10_change rfl (kC_X10.1) sam.c0 rfl rfl (Nat.le_of_ble_eq_true rfl) (by omega) (by decide) (by omega) (by omega) (e9) (q_kC (fun h2 hB => ?_)) q_xC
    obtain ⟨t2_0, t2_1, t2_2, t2_3, t2_4, pp2⟩ := hB
    have sam2 := t2_0
    have sst2 := t2_1
    have ssv2 := t2_2
    have slt2 := t2_3
    have shs2 := t2_4
    have p2 := p0.trans (pp2.wide (by omega) (by omega))
    have hb_hs_nx : y1_nx ≤ 8 := shs2.bnx
    have hb_hs_kp : y1_kp ≤ 8 := shs2.bkp
    change q_W _ _ _ _ _ _ _ _ 9 [.ref (100)] [.int (v1)] _
    refine q_i2c dX10_endDialogue_9 rfl ?_
    have hE : x_am_endDialogue s nx kp rw = (.inl (((v1).toUInt32 % 65536).toInt32), y1_s, y1_nx, y1_kp, y1_rw) := by simp only [x_am_endDialogue, x1]
    rw [hE]
    exact q_ireturn dX10_endDialogue_10 rfl (pk_nc _) (by omega) (by omega) ⟨rfl, sam2, sst2, ssv2, slt2, shs2, p2⟩
  · have e9 := e_am_change (g := g) (h := h) (d := d - 1) sam sst ssv slt shs 9 0 0 (by omega) (by omega)
    rw [x1] at e9
    refine q_invV (mc' := 4) (ms' := 24) (d' := d - 1) (as := [.ref (3 + 9), .int (0), .int (0)]) dX10_endDialogue_6 kM_X10_change kL_X10_84 kI_X10_change kS_X10_change rfl (kC_X10.1) sam.c0 rfl rfl (Nat.le_of_ble_eq_true rfl) (by omega) (by decide) (by omega) (by omega) (e9) q_kCx (q_xCx (fun h3 hB => ?_))
    obtain ⟨t3_0, t3_1, t3_2, t3_3, t3_4, pp3⟩ := hB
    have sam3 := t3_0
    have sst3 := t3_1
    have ssv3 := t3_2
    have slt3 := t3_3
    have shs3 := t3_4
    have p3 := p0.trans (pp3.wide (by omega) (by omega))
    have hb_hs_nx : y1_nx ≤ 8 := shs3.bnx
    have hb_hs_kp : y1_kp ≤ 8 := shs3.bkp
    have hE : x_am_endDialogue s nx kp rw = (.inr e1, y1_s, y1_nx, y1_kp, y1_rw) := by simp only [x_am_endDialogue, x1]
    rw [hE]
    exact q_xout rfl ⟨rfl, sam3, sst3, ssv3, slt3, shs3, p3⟩ (by omega) (by omega)
def x_am_pass (s : ZS) (nx : Nat) (kp : Nat) (rw : Nat → ZS) (xa : Int32) : (Int32 ⊕ String) × (ZS) × (Nat) × (Nat) × (Nat → ZS) := (match x_am_change s nx kp rw 10 xa 0 with | ((.inl v1), y1_s, y1_nx, y1_kp, y1_rw) => (.inl v1, y1_s, y1_nx, y1_kp, y1_rw) | ((.inr e1), y1_s, y1_nx, y1_kp, y1_rw) => (.inr e1, y1_s, y1_nx, y1_kp, y1_rw))
set_option maxRecDepth 100000 in
set_option maxHeartbeats 8000000 in
theorem e_am_pass {g : q_G} {h : q_H} {d : Nat} {hs : Bool} {se : Int32} {sf : Int32} (sam : z_Am h 100 hs se sf) {s : ZS} (sst : z_S2t h 101 s) {s1 : ZS} (ssv : z_S2t h 109 s1) {s2 : ZS} (slt : z_S2t h 117 s2) {nx : Nat} {kp : Nat} {rw : Nat → ZS} (shs : z_Hs h 125 nx kp rw)  (xa : Int32)   (hd : 12 ≤ d) : q_Spec g mX10_pass d 4 24 [.ref (100), .int (xa)] h (q_chg (q_oI (x_am_pass s nx kp rw xa).1) (fun h1 => z_Am h1 100 hs se sf ∧ z_S2t h1 101 ((x_am_pass s nx kp rw xa).2.1) ∧ z_S2t h1 109 s1 ∧ z_S2t h1 117 s2 ∧ z_Hs h1 125 ((x_am_pass s nx kp rw xa).2.2.1) ((x_am_pass s nx kp rw xa).2.2.2.1) ((x_am_pass s nx kp rw xa).2.2.2.2) ∧ q_same h h1 101 98)) := by
  have hb_hs_nx := shs.bnx
  have hb_hs_kp := shs.bkp
  have ho_hs_nx := shs.bnx
  have ho_hs_kp := shs.bkp
  have p0 : q_same h h 101 98 := q_same.rfl'
  refine q_enter (by decide +kernel) rfl rfl (Nat.le_of_ble_eq_true rfl) (fun hz => ?_)
  change q_W _ _ _ _ _ _ _ _ _ [.ref (100), .int (xa)] [] _
  refine q_aload_n (by first | assumption | omega | decide | (rw [q_R0e]; omega)) dX10_pass_0 rfl ?_
  refine q_getstatic (v := .ref (3 + 10)) (by simp [q_zs]) kL_X10_115 rfl dX10_pass_1 ?_
  change q_W _ _ _ _ _ _ _ _ 4 [.ref (100), .int (xa)] [.ref (3 + 10), .ref (100)] _
  refine q_iload_n dX10_pass_4 rfl ?_
  refine q_iconst (v := 0) dX10_pass_5 rfl ?_
  rcases x1 : x_am_change s nx kp rw 10 xa 0 with ⟨v1 | e1, y1_s, y1_nx, y1_kp, y1_rw⟩
  · have e9 := e_am_change (g := g) (h := h) (d := d - 1) sam sst ssv slt shs 10 xa 0 (by omega) (by omega)
    rw [x1] at e9
    refine q_invV (mc' := 4) (ms' := 24) (d' := d - 1) (as := [.ref (3 + 10), .int (xa), .int (0)]) dX10_pass_6 kM_X10_change kL_X10_84 kI_X10_change kS_X10_change rfl (kC_X10.1) sam.c0 rfl rfl (Nat.le_of_ble_eq_true rfl) (by omega) (by decide) (by omega) (by omega) (e9) (q_kC (fun h2 hB => ?_)) q_xC
    obtain ⟨t2_0, t2_1, t2_2, t2_3, t2_4, pp2⟩ := hB
    have sam2 := t2_0
    have sst2 := t2_1
    have ssv2 := t2_2
    have slt2 := t2_3
    have shs2 := t2_4
    have p2 := p0.trans (pp2.wide (by omega) (by omega))
    have hb_hs_nx : y1_nx ≤ 8 := shs2.bnx
    have hb_hs_kp : y1_kp ≤ 8 := shs2.bkp
    change q_W _ _ _ _ _ _ _ _ 9 [.ref (100), .int (xa)] [.int (v1)] _
    have hE : x_am_pass s nx kp rw xa = (.inl v1, y1_s, y1_nx, y1_kp, y1_rw) := by simp only [x_am_pass, x1]
    rw [hE]
    exact q_ireturn dX10_pass_9 rfl rfl (by omega) (by omega) ⟨rfl, sam2, sst2, ssv2, slt2, shs2, p2⟩
  · have e9 := e_am_change (g := g) (h := h) (d := d - 1) sam sst ssv slt shs 10 xa 0 (by omega) (by omega)
    rw [x1] at e9
    refine q_invV (mc' := 4) (ms' := 24) (d' := d - 1) (as := [.ref (3 + 10), .int (xa), .int (0)]) dX10_pass_6 kM_X10_change kL_X10_84 kI_X10_change kS_X10_change rfl (kC_X10.1) sam.c0 rfl rfl (Nat.le_of_ble_eq_true rfl) (by omega) (by decide) (by omega) (by omega) (e9) q_kCx (q_xCx (fun h3 hB => ?_))
    obtain ⟨t3_0, t3_1, t3_2, t3_3, t3_4, pp3⟩ := hB
    have sam3 := t3_0
    have sst3 := t3_1
    have ssv3 := t3_2
    have slt3 := t3_3
    have shs3 := t3_4
    have p3 := p0.trans (pp3.wide (by omega) (by omega))
    have hb_hs_nx : y1_nx ≤ 8 := shs3.bnx
    have hb_hs_kp : y1_kp ≤ 8 := shs3.bkp
    have hE : x_am_pass s nx kp rw xa = (.inr e1, y1_s, y1_nx, y1_kp, y1_rw) := by simp only [x_am_pass, x1]
    rw [hE]
    exact q_xout rfl ⟨rfl, sam3, sst3, ssv3, slt3, shs3, p3⟩ (by omega) (by omega)
def x_am_day (dy : Int32) : Int32 := dy
def x_am_argumentCount (n : Nat) : Int32 := nI (n)
set_option maxRecDepth 100000 in
set_option maxHeartbeats 8000000 in
theorem e_am_argumentCount {g : q_G} {h : q_H} {d : Nat} {hs : Bool} {se : Int32} {sf : Int32} (sam : z_Am h 100 hs se sf) {n : Nat} {id : Nat → Int32} {wt : Nat → Int32} {ag : Nat → Int32} {tg : Nat → Int32} {att : Nat → Int32} {ni : Int32} {dy : Int32} {mn : Nat} {mv : Nat → Int32} {en : Int32} {wo : Int32} {br : Int32} (sst : z_S2 h 101 n id wt ag tg att ni dy mn mv en wo br)     (hd : 0 ≤ d) : q_Spec g mX10_argumentCount d 0 0 [.ref (100)] h (q_ret ((some (.int (x_am_argumentCount n)))) h) := by
  have hb_st_n := sst.bn
  have hb_st_mn := sst.bmn
  have ho_st_n := sst.bn
  have ho_st_mn := sst.bmn
  refine q_enter (by decide +kernel) rfl rfl (Nat.le_of_ble_eq_true rfl) (fun hz => ?_)
  change q_W _ _ _ _ _ _ _ _ _ [.ref (100)] [] _
  refine q_aload_n (by first | assumption | omega | decide | (rw [q_R0e]; omega)) dX10_argumentCount_0 rfl ?_
  refine q_getf (k := 0) (v := .ref (101)) kC_X10 kL_X10_12 rfl (by decide) dX10_argumentCount_1 sam.c0 rfl ?_
  refine q_getf (k := 6) (v := .int (nI (n))) kC_X8 kL_X10_121 rfl (by decide) dX10_argumentCount_4 sst.c0 rfl ?_
  have hE : x_am_argumentCount n = nI (n) := by simp only [x_am_argumentCount]
  rw [hE]
  exact q_ireturn dX10_argumentCount_7 rfl rfl (by omega) (by omega) ⟨rfl, rfl⟩
def x_am_attackCount (n : Nat) (tg : Nat → Int32) : Int32 := x_st_countAttacks n tg
set_option maxRecDepth 100000 in
set_option maxHeartbeats 8000000 in
theorem e_am_attackCount {g : q_G} {h : q_H} {d : Nat} {hs : Bool} {se : Int32} {sf : Int32} (sam : z_Am h 100 hs se sf) {n : Nat} {id : Nat → Int32} {wt : Nat → Int32} {ag : Nat → Int32} {tg : Nat → Int32} {att : Nat → Int32} {ni : Int32} {dy : Int32} {mn : Nat} {mv : Nat → Int32} {en : Int32} {wo : Int32} {br : Int32} (sst : z_S2 h 101 n id wt ag tg att ni dy mn mv en wo br)     (hd : 2 ≤ d) : q_Spec g mX10_attackCount d 0 0 [.ref (100)] h (q_ret ((some (.int (x_am_attackCount n tg)))) h) := by
  have hb_st_n := sst.bn
  have hb_st_mn := sst.bmn
  have ho_st_n := sst.bn
  have ho_st_mn := sst.bmn
  refine q_enter (by decide +kernel) rfl rfl (Nat.le_of_ble_eq_true rfl) (fun hz => ?_)
  change q_W _ _ _ _ _ _ _ _ _ [.ref (100)] [] _
  refine q_aload_n (by first | assumption | omega | decide | (rw [q_R0e]; omega)) dX10_attackCount_0 rfl ?_
  refine q_getf (k := 0) (v := .ref (101)) kC_X10 kL_X10_12 rfl (by decide) dX10_attackCount_1 sam.c0 rfl ?_
  refine q_invV (mc' := 0) (ms' := 0) (d' := d - 1) (as := []) dX10_attackCount_4 kM_X8_countAttacks kL_X10_148 kI_X8_countAttacks kS_X8_countAttacks rfl (kC_X8.1) sst.c0 rfl rfl (Nat.le_of_ble_eq_true rfl) (by omega) (by decide) (by omega) (by omega) (e_st_countAttacks (d := d - 1) sst (by omega)) (q_kR ?_) q_xR
  change q_W _ _ _ _ _ _ _ _ 7 [.ref (100)] [.int (x_st_countAttacks n tg)] _
  have hE : x_am_attackCount n tg = x_st_countAttacks n tg := by simp only [x_am_attackCount]
  rw [hE]
  exact q_ireturn dX10_attackCount_7 rfl rfl (by omega) (by omega) ⟨rfl, rfl⟩
def x_am_successfulCount_4 (att : Nat → Int32) : Nat → Nat → (Int32) → (Int32)
  | 0, _, c4_1 => c4_1
  | r + 1, k, c4_1 => x_am_successfulCount_4 att r (k + 1) (c4_1 + (z_bc (att k)))
set_option maxRecDepth 100000 in
set_option maxHeartbeats 8000000 in
theorem l_am_successfulCount_4 {g : q_G} {h : q_H} {d mc ms kc ks : Nat} {Q : q_O → q_H → Prop} {hs : Bool} {se : Int32} {sf : Int32} {n : Nat} {id : Nat → Int32} {wt : Nat → Int32} {ag : Nat → Int32} {tg : Nat → Int32} {att : Nat → Int32} {ni : Int32} {dy : Int32} {mn : Nat} {mv : Nat → Int32} {en : Int32} {wo : Int32} {br : Int32} (sam : z_Am h 100 hs se sf) (sst : z_S2 h 101 n id wt ag tg att ni dy mn mv en wo br)  (ho_st_n : n ≤ 8) (ho_st_mn : mn ≤ 12)  (hd : 1 ≤ d) (hkc : kc + 0 ≤ mc) (hks : ks + 0 ≤ ms) : ∀ (r k : Nat) (c4_1 : Int32) (hk_4 : k + r = n) (K : ∀ (r4_0 : Int32), x_am_successfulCount_4 att r k c4_1 = r4_0 → q_W g mX10_successfulCount d mc ms Q kc ks 36 [q_u, .int (r4_0), q_u] [] h), q_W g mX10_successfulCount d mc ms Q kc ks 4 [.ref (100), .int (c4_1), .int (nI (k))] [] h := by
  intro r
  induction r with
  | zero =>
    intro k c4_1  hk_4 K
    have hb_st_n := sst.bn
    have hb_st_mn := sst.bmn
    refine q_iload_n dX10_successfulCount_4 rfl ?_
    refine q_aload_n (by first | assumption | omega | decide | (rw [q_R0e]; omega)) dX10_successfulCount_5 rfl ?_
    refine q_getf (k := 0) (v := .ref (101)) kC_X10 kL_X10_12 rfl (by decide) dX10_successfulCount_6 sam.c0 rfl ?_
    refine q_getf (k := 6) (v := .int (nI (n))) kC_X8 kL_X10_121 rfl (by decide) dX10_successfulCount_9 sst.c0 rfl ?_
    refine q_icmp_ge 36 dX10_successfulCount_12 (by decide) (fun b12 => ?_) (fun b12 => ?_)
    · have b12 := (nI_leI (a := n) (b := k) (by omega) (by omega)).mp b12
      refine q_forget 0 ?_
      refine q_forget 2 ?_
      change q_W _ _ _ _ _ _ _ _ _ [q_u, .int (c4_1), q_u] [] _
      exact K c4_1 (by simp only [x_am_successfulCount_4])
    · have b12 : ¬ (n ≤ k) := fun q => b12 ((nI_leI (a := n) (b := k) (by omega) (by omega)).mpr q)
      exact absurd b12 (by omega)
  | succ r ih =>
    intro k c4_1  hk_4 K
    have hb_st_n := sst.bn
    have hb_st_mn := sst.bmn
    refine q_iload_n dX10_successfulCount_4 rfl ?_
    refine q_aload_n (by first | assumption | omega | decide | (rw [q_R0e]; omega)) dX10_successfulCount_5 rfl ?_
    refine q_getf (k := 0) (v := .ref (101)) kC_X10 kL_X10_12 rfl (by decide) dX10_successfulCount_6 sam.c0 rfl ?_
    refine q_getf (k := 6) (v := .int (nI (n))) kC_X8 kL_X10_121 rfl (by decide) dX10_successfulCount_9 sst.c0 rfl ?_
    refine q_icmp_ge 36 dX10_successfulCount_12 (by decide) (fun b12 => ?_) (fun b12 => ?_)
    · have b12 := (nI_leI (a := n) (b := k) (by omega) (by omega)).mp b12
      exact absurd b12 (by omega)
    · have b12 : ¬ (n ≤ k) := fun q => b12 ((nI_leI (a := n) (b := k) (by omega) (by omega)).mpr q)
      refine q_iload_n dX10_successfulCount_15 rfl ?_
      refine q_aload_n (by first | assumption | omega | decide | (rw [q_R0e]; omega)) dX10_successfulCount_16 rfl ?_
      refine q_getf (k := 0) (v := .ref (101)) kC_X10 kL_X10_12 rfl (by decide) dX10_successfulCount_17 sam.c0 rfl ?_
      refine q_getf (k := 4) (v := .ref (106)) kC_X8 kL_X10_164 rfl (by decide) dX10_successfulCount_20 sst.c0 rfl ?_
      refine q_iload_n dX10_successfulCount_23 rfl ?_
      refine q_ialdN (j := k) (f := att) dX10_successfulCount_24 sst.c5 (by omega) (by decide) ?_
      change q_W _ _ _ _ _ _ _ _ _ _ [.int (att k), .int (c4_1)] _
      refine q_invS (mc' := 0) (ms' := 0) (d' := d - 1) (as := [.int (att k)]) dX10_successfulCount_25 kM_J6_bitCount_0f7a4 kL_X10_167 kT_J6_bitCount_0f7a4 rfl rfl rfl (Nat.le_of_ble_eq_true rfl) (by omega) (by decide) (by omega) (by omega) (e_bitCount (d := d - 1)) (q_kR ?_) q_xR
      change q_W _ _ _ _ _ _ _ _ 28 [.ref (100), .int (c4_1), .int (nI (k))] [.int (z_bc (att k)), .int (c4_1)] _
      refine q_iadd dX10_successfulCount_28 ?_
      refine q_istore_n dX10_successfulCount_29 (by decide) rfl ?_
      change q_W _ _ _ _ _ _ _ _ _ [.ref (100), .int (c4_1 + (z_bc (att k))), .int (nI (k))] [] _
      refine q_iinc (x := nI (k)) (v := nI (k + 1)) dX10_successfulCount_30 rfl (nI_add _ 1) rfl ?_
      change q_W _ _ _ _ _ _ _ _ _ [.ref (100), .int (c4_1 + (z_bc (att k))), .int (nI (k + 1))] [] _
      refine q_goto 4 dX10_successfulCount_33 (by decide) ?_
      change q_W _ _ _ _ _ _ _ _ _ [.ref (100), .int (c4_1 + (z_bc (att k))), .int (nI (k + 1))] [] _
      exact ih (k + 1) (c4_1 + (z_bc (att k))) (by omega) (fun r4_0 e9 => K r4_0 (by simp only [x_am_successfulCount_4]; exact e9))
def x_am_successfulCount (n : Nat) (att : Nat → Int32) : Int32 := (let a1_0 := x_am_successfulCount_4 att n 0 0; a1_0)
set_option maxRecDepth 100000 in
set_option maxHeartbeats 8000000 in
theorem e_am_successfulCount {g : q_G} {h : q_H} {d : Nat} {hs : Bool} {se : Int32} {sf : Int32} (sam : z_Am h 100 hs se sf) {n : Nat} {id : Nat → Int32} {wt : Nat → Int32} {ag : Nat → Int32} {tg : Nat → Int32} {att : Nat → Int32} {ni : Int32} {dy : Int32} {mn : Nat} {mv : Nat → Int32} {en : Int32} {wo : Int32} {br : Int32} (sst : z_S2 h 101 n id wt ag tg att ni dy mn mv en wo br)     (hd : 1 ≤ d) : q_Spec g mX10_successfulCount d 0 0 [.ref (100)] h (q_ret ((some (.int (x_am_successfulCount n att)))) h) := by
  have hb_st_n := sst.bn
  have hb_st_mn := sst.bmn
  have ho_st_n := sst.bn
  have ho_st_mn := sst.bmn
  refine q_enter (by decide +kernel) rfl rfl (Nat.le_of_ble_eq_true rfl) (fun hz => ?_)
  change q_W _ _ _ _ _ _ _ _ _ [.ref (100), q_u, q_u] [] _
  refine q_iconst (v := 0) dX10_successfulCount_0 rfl ?_
  refine q_istore_n dX10_successfulCount_1 (by decide) rfl ?_
  change q_W _ _ _ _ _ _ _ _ _ [.ref (100), .int (0), q_u] [] _
  refine q_iconst (v := 0) dX10_successfulCount_2 rfl ?_
  refine q_istore_n dX10_successfulCount_3 (by decide) rfl ?_
  change q_W _ _ _ _ _ _ _ _ _ [.ref (100), .int (0), .int (0)] [] _
  change q_W _ _ _ _ _ _ _ _ _ [.ref (100), .int (0), .int (0)] [] _
  refine l_am_successfulCount_4 sam sst ho_st_n ho_st_mn (by omega) (by omega) (by omega) n 0 0 (by omega) (fun a1_0 x1 => ?_)
  change q_W _ _ _ _ _ _ _ _ 36 [q_u, .int (a1_0), q_u] [] _
  refine q_iload_n dX10_successfulCount_36 rfl ?_
  have hE : x_am_successfulCount n att = a1_0 := by simp only [x_am_successfulCount, x1]
  rw [hE]
  exact q_ireturn dX10_successfulCount_37 rfl rfl (by omega) (by omega) ⟨rfl, rfl⟩
def x_am_isDialogueHeld (mn : Nat) : Bool := x_dl_isHeld mn
set_option maxRecDepth 100000 in
set_option maxHeartbeats 8000000 in
theorem e_am_isDialogueHeld {g : q_G} {h : q_H} {d : Nat} {hs : Bool} {se : Int32} {sf : Int32} (sam : z_Am h 100 hs se sf) {n : Nat} {id : Nat → Int32} {wt : Nat → Int32} {ag : Nat → Int32} {tg : Nat → Int32} {att : Nat → Int32} {ni : Int32} {dy : Int32} {mn : Nat} {mv : Nat → Int32} {en : Int32} {wo : Int32} {br : Int32} (sst : z_S2 h 101 n id wt ag tg att ni dy mn mv en wo br)     (hd : 1 ≤ d) : q_Spec g mX10_isDialogueHeld d 0 0 [.ref (100)] h (q_ret ((some (.int (z_b (x_am_isDialogueHeld mn))))) h) := by
  have hb_st_n := sst.bn
  have hb_st_mn := sst.bmn
  have ho_st_n := sst.bn
  have ho_st_mn := sst.bmn
  refine q_enter (by decide +kernel) rfl rfl (Nat.le_of_ble_eq_true rfl) (fun hz => ?_)
  change q_W _ _ _ _ _ _ _ _ _ [.ref (100)] [] _
  refine q_aload_n (by first | assumption | omega | decide | (rw [q_R0e]; omega)) dX10_isDialogueHeld_0 rfl ?_
  refine q_getf (k := 0) (v := .ref (101)) kC_X10 kL_X10_12 rfl (by decide) dX10_isDialogueHeld_1 sam.c0 rfl ?_
  refine q_getf (k := 5) (v := .ref (107)) kC_X8 kL_X10_247 rfl (by decide) dX10_isDialogueHeld_4 sst.c0 rfl ?_
  refine q_invV (mc' := 0) (ms' := 0) (d' := d - 1) (as := []) dX10_isDialogueHeld_7 kM_X2_isHeld kL_X10_251 kI_X2_isHeld kS_X2_isHeld rfl (kC_X2.1) sst.c6 rfl rfl (Nat.le_of_ble_eq_true rfl) (by omega) (by decide) (by omega) (by omega) (e_dl_isHeld (d := d - 1) (sst.dl) (by omega)) (q_kR ?_) q_xR
  change q_W _ _ _ _ _ _ _ _ 10 [.ref (100)] [.int (z_b (x_dl_isHeld mn))] _
  have hE : x_am_isDialogueHeld mn = x_dl_isHeld mn := by simp only [x_am_isDialogueHeld]
  rw [hE]
  exact q_ireturn dX10_isDialogueHeld_10 rfl (z_b_nar _) (by omega) (by omega) ⟨rfl, rfl⟩
def x_am_moveCount (mn : Nat) : Int32 := nI (mn)
set_option maxRecDepth 100000 in
set_option maxHeartbeats 8000000 in
theorem e_am_moveCount {g : q_G} {h : q_H} {d : Nat} {hs : Bool} {se : Int32} {sf : Int32} (sam : z_Am h 100 hs se sf) {n : Nat} {id : Nat → Int32} {wt : Nat → Int32} {ag : Nat → Int32} {tg : Nat → Int32} {att : Nat → Int32} {ni : Int32} {dy : Int32} {mn : Nat} {mv : Nat → Int32} {en : Int32} {wo : Int32} {br : Int32} (sst : z_S2 h 101 n id wt ag tg att ni dy mn mv en wo br)     (hd : 0 ≤ d) : q_Spec g mX10_moveCount d 0 0 [.ref (100)] h (q_ret ((some (.int (x_am_moveCount mn)))) h) := by
  have hb_st_n := sst.bn
  have hb_st_mn := sst.bmn
  have ho_st_n := sst.bn
  have ho_st_mn := sst.bmn
  refine q_enter (by decide +kernel) rfl rfl (Nat.le_of_ble_eq_true rfl) (fun hz => ?_)
  change q_W _ _ _ _ _ _ _ _ _ [.ref (100)] [] _
  refine q_aload_n (by first | assumption | omega | decide | (rw [q_R0e]; omega)) dX10_moveCount_0 rfl ?_
  refine q_getf (k := 0) (v := .ref (101)) kC_X10 kL_X10_12 rfl (by decide) dX10_moveCount_1 sam.c0 rfl ?_
  refine q_getf (k := 5) (v := .ref (107)) kC_X8 kL_X10_247 rfl (by decide) dX10_moveCount_4 sst.c0 rfl ?_
  refine q_getf (k := 1) (v := .int (nI (mn))) kC_X2 kL_X10_257 rfl (by decide) dX10_moveCount_7 sst.c6 rfl ?_
  have hE : x_am_moveCount mn = nI (mn) := by simp only [x_am_moveCount]
  rw [hE]
  exact q_ireturn dX10_moveCount_10 rfl rfl (by omega) (by omega) ⟨rfl, rfl⟩
def x_am_dialogueTotal (en : Int32) : Int32 := en
def x_am_proponentWins (wo : Int32) : Int32 := wo
def x_am_brokenOffTotal (br : Int32) : Int32 := br
def x_am_idAt (n : Nat) (id : Nat → Int32) (xp : Int32) : Int32 ⊕ String := (if (xp) < (0) then .inr "java/lang/IndexOutOfBoundsException" else (if (xp) < (nI (n)) then .inl (id (xp).toNatClampNeg) else .inr "java/lang/IndexOutOfBoundsException"))
set_option maxRecDepth 100000 in
set_option maxHeartbeats 8000000 in
theorem e_am_idAt {g : q_G} {h : q_H} {d : Nat} {hs : Bool} {se : Int32} {sf : Int32} (sam : z_Am h 100 hs se sf) {n : Nat} {id : Nat → Int32} {wt : Nat → Int32} {ag : Nat → Int32} {tg : Nat → Int32} {att : Nat → Int32} {ni : Int32} {dy : Int32} {mn : Nat} {mv : Nat → Int32} {en : Int32} {wo : Int32} {br : Int32} (sst : z_S2 h 101 n id wt ag tg att ni dy mn mv en wo br)  (xp : Int32)   (hd : 7 ≤ d) : q_Spec g mX10_idAt d 1 6 [.ref (100), .int (xp)] h (q_out (q_oI (x_am_idAt n id xp)) h) := by
  have hb_st_n := sst.bn
  have hb_st_mn := sst.bmn
  have ho_st_n := sst.bn
  have ho_st_mn := sst.bmn
  refine q_enter (by decide +kernel) rfl rfl (Nat.le_of_ble_eq_true rfl) (fun hz => ?_)
  change q_W _ _ _ _ _ _ _ _ _ [.ref (100), .int (xp)] [] _
  refine q_iload_n dX10_idAt_0 rfl ?_
  refine q_if_lt 15 dX10_idAt_1 (by decide) (fun b1 => ?_) (fun b1 => ?_)
  · have hE : x_am_idAt n id xp = .inr "java/lang/IndexOutOfBoundsException" := by simp only [x_am_idAt, if_pos b1]
    rw [hE]
    refine q_throw kE_X10_128 kR_X10_126 rfl dX10_idAt_15 dX10_idAt_18 dX10_idAt_19 dX10_idAt_21 dX10_idAt_24 (Nat.le_of_ble_eq_true rfl) (by omega) (by omega) (by omega) ?_
    exact q_xout rfl ⟨rfl, rfl⟩ (by omega) (by omega)
  · refine q_iload_n dX10_idAt_4 rfl ?_
    refine q_aload_n (by first | assumption | omega | decide | (rw [q_R0e]; omega)) dX10_idAt_5 rfl ?_
    refine q_getf (k := 0) (v := .ref (101)) kC_X10 kL_X10_12 rfl (by decide) dX10_idAt_6 sam.c0 rfl ?_
    refine q_getf (k := 6) (v := .int (nI (n))) kC_X8 kL_X10_121 rfl (by decide) dX10_idAt_9 sst.c0 rfl ?_
    refine q_icmp_lt 25 dX10_idAt_12 (by decide) (fun b12 => ?_) (fun b12 => ?_)
    · refine q_aload_n (by first | assumption | omega | decide | (rw [q_R0e]; omega)) dX10_idAt_25 rfl ?_
      refine q_getf (k := 0) (v := .ref (101)) kC_X10 kL_X10_12 rfl (by decide) dX10_idAt_26 sam.c0 rfl ?_
      refine q_getf (k := 0) (v := .ref (102)) kC_X8 kL_X10_131 rfl (by decide) dX10_idAt_29 sst.c0 rfl ?_
      refine q_iload_n dX10_idAt_32 rfl ?_
      refine q_iald (f := id) dX10_idAt_33 sst.c1 (z_vpin b1 b12 (by omega) (by decide)) ?_
      change q_W _ _ _ _ _ _ _ _ 34 [.ref (100), .int (xp)] [.int (id (xp).toNatClampNeg)] _
      have hE : x_am_idAt n id xp = .inl (id (xp).toNatClampNeg) := by simp only [x_am_idAt, if_neg b1, if_pos b12]
      rw [hE]
      exact q_ireturn dX10_idAt_34 rfl rfl (by omega) (by omega) ⟨rfl, rfl⟩
    · have hE : x_am_idAt n id xp = .inr "java/lang/IndexOutOfBoundsException" := by simp only [x_am_idAt, if_neg b1, if_neg b12]
      rw [hE]
      refine q_throw kE_X10_128 kR_X10_126 rfl dX10_idAt_15 dX10_idAt_18 dX10_idAt_19 dX10_idAt_21 dX10_idAt_24 (Nat.le_of_ble_eq_true rfl) (by omega) (by omega) (by omega) ?_
      exact q_xout rfl ⟨rfl, rfl⟩ (by omega) (by omega)
def x_am_moveAt (mn : Nat) (mv : Nat → Int32) (xp : Int32) : Int32 ⊕ String := (if (xp) < (0) then .inr "java/lang/IndexOutOfBoundsException" else (if (xp) < (nI (mn)) then .inl (mv (xp).toNatClampNeg) else .inr "java/lang/IndexOutOfBoundsException"))
set_option maxRecDepth 100000 in
set_option maxHeartbeats 8000000 in
theorem e_am_moveAt {g : q_G} {h : q_H} {d : Nat} {hs : Bool} {se : Int32} {sf : Int32} (sam : z_Am h 100 hs se sf) {n : Nat} {id : Nat → Int32} {wt : Nat → Int32} {ag : Nat → Int32} {tg : Nat → Int32} {att : Nat → Int32} {ni : Int32} {dy : Int32} {mn : Nat} {mv : Nat → Int32} {en : Int32} {wo : Int32} {br : Int32} (sst : z_S2 h 101 n id wt ag tg att ni dy mn mv en wo br)  (xp : Int32)   (hd : 7 ≤ d) : q_Spec g mX10_moveAt d 1 6 [.ref (100), .int (xp)] h (q_out (q_oI (x_am_moveAt mn mv xp)) h) := by
  have hb_st_n := sst.bn
  have hb_st_mn := sst.bmn
  have ho_st_n := sst.bn
  have ho_st_mn := sst.bmn
  refine q_enter (by decide +kernel) rfl rfl (Nat.le_of_ble_eq_true rfl) (fun hz => ?_)
  change q_W _ _ _ _ _ _ _ _ _ [.ref (100), .int (xp)] [] _
  refine q_iload_n dX10_moveAt_0 rfl ?_
  refine q_if_lt 18 dX10_moveAt_1 (by decide) (fun b1 => ?_) (fun b1 => ?_)
  · have hE : x_am_moveAt mn mv xp = .inr "java/lang/IndexOutOfBoundsException" := by simp only [x_am_moveAt, if_pos b1]
    rw [hE]
    refine q_throwW kE_X10_128 kR_X10_258 rfl dX10_moveAt_18 dX10_moveAt_21 dX10_moveAt_22 dX10_moveAt_25 dX10_moveAt_28 (Nat.le_of_ble_eq_true rfl) (by omega) (by omega) (by omega) ?_
    exact q_xout rfl ⟨rfl, rfl⟩ (by omega) (by omega)
  · refine q_iload_n dX10_moveAt_4 rfl ?_
    refine q_aload_n (by first | assumption | omega | decide | (rw [q_R0e]; omega)) dX10_moveAt_5 rfl ?_
    refine q_getf (k := 0) (v := .ref (101)) kC_X10 kL_X10_12 rfl (by decide) dX10_moveAt_6 sam.c0 rfl ?_
    refine q_getf (k := 5) (v := .ref (107)) kC_X8 kL_X10_247 rfl (by decide) dX10_moveAt_9 sst.c0 rfl ?_
    refine q_getf (k := 1) (v := .int (nI (mn))) kC_X2 kL_X10_257 rfl (by decide) dX10_moveAt_12 sst.c6 rfl ?_
    refine q_icmp_lt 29 dX10_moveAt_15 (by decide) (fun b15 => ?_) (fun b15 => ?_)
    · refine q_aload_n (by first | assumption | omega | decide | (rw [q_R0e]; omega)) dX10_moveAt_29 rfl ?_
      refine q_getf (k := 0) (v := .ref (101)) kC_X10 kL_X10_12 rfl (by decide) dX10_moveAt_30 sam.c0 rfl ?_
      refine q_getf (k := 5) (v := .ref (107)) kC_X8 kL_X10_247 rfl (by decide) dX10_moveAt_33 sst.c0 rfl ?_
      refine q_getf (k := 0) (v := .ref (108)) kC_X2 kL_X10_260 rfl (by decide) dX10_moveAt_36 sst.c6 rfl ?_
      refine q_iload_n dX10_moveAt_39 rfl ?_
      refine q_iald (f := mv) dX10_moveAt_40 sst.c7 (z_vpin b1 b15 (by omega) (by decide)) ?_
      change q_W _ _ _ _ _ _ _ _ 41 [.ref (100), .int (xp)] [.int (mv (xp).toNatClampNeg)] _
      have hE : x_am_moveAt mn mv xp = .inl (mv (xp).toNatClampNeg) := by simp only [x_am_moveAt, if_neg b1, if_pos b15]
      rw [hE]
      exact q_ireturn dX10_moveAt_41 rfl rfl (by omega) (by omega) ⟨rfl, rfl⟩
    · have hE : x_am_moveAt mn mv xp = .inr "java/lang/IndexOutOfBoundsException" := by simp only [x_am_moveAt, if_neg b1, if_neg b15]
      rw [hE]
      refine q_throwW kE_X10_128 kR_X10_258 rfl dX10_moveAt_18 dX10_moveAt_21 dX10_moveAt_22 dX10_moveAt_25 dX10_moveAt_28 (Nat.le_of_ble_eq_true rfl) (by omega) (by omega) (by omega) ?_
      exact q_xout rfl ⟨rfl, rfl⟩ (by omega) (by omega)
def x_am_weightOf (n : Nat) (id : Nat → Int32) (wt : Nat → Int32) (xid : Int32) : Int32 ⊕ String := (match x_st_slotOfKnown n id xid with | (.inl v1) => .inl (wt v1) | (.inr e1) => .inr e1)
set_option maxRecDepth 100000 in
set_option maxHeartbeats 8000000 in
theorem e_am_weightOf {g : q_G} {h : q_H} {d : Nat} {hs : Bool} {se : Int32} {sf : Int32} (sam : z_Am h 100 hs se sf) {n : Nat} {id : Nat → Int32} {wt : Nat → Int32} {ag : Nat → Int32} {tg : Nat → Int32} {att : Nat → Int32} {ni : Int32} {dy : Int32} {mn : Nat} {mv : Nat → Int32} {en : Int32} {wo : Int32} {br : Int32} (sst : z_S2 h 101 n id wt ag tg att ni dy mn mv en wo br)  (xid : Int32)   (hd : 8 ≤ d) : q_Spec g mX10_weightOf d 1 6 [.ref (100), .int (xid)] h (q_out (q_oI (x_am_weightOf n id wt xid)) h) := by
  have hb_st_n := sst.bn
  have hb_st_mn := sst.bmn
  have ho_st_n := sst.bn
  have ho_st_mn := sst.bmn
  refine q_enter (by decide +kernel) rfl rfl (Nat.le_of_ble_eq_true rfl) (fun hz => ?_)
  change q_W _ _ _ _ _ _ _ _ _ [.ref (100), .int (xid)] [] _
  refine q_aload_n (by first | assumption | omega | decide | (rw [q_R0e]; omega)) dX10_weightOf_0 rfl ?_
  refine q_getf (k := 0) (v := .ref (101)) kC_X10 kL_X10_12 rfl (by decide) dX10_weightOf_1 sam.c0 rfl ?_
  refine q_getf (k := 1) (v := .ref (103)) kC_X8 kL_X10_135 rfl (by decide) dX10_weightOf_4 sst.c0 rfl ?_
  refine q_aload_n (by first | assumption | omega | decide | (rw [q_R0e]; omega)) dX10_weightOf_7 rfl ?_
  refine q_getf (k := 0) (v := .ref (101)) kC_X10 kL_X10_12 rfl (by decide) dX10_weightOf_8 sam.c0 rfl ?_
  refine q_iload_n dX10_weightOf_11 rfl ?_
  rcases x1 : x_st_slotOfKnown n id xid with v1 | e1
  · have e9 := e_st_slotOfKnown (g := g) (h := h) (d := d - 1) sst xid (by omega)
    rw [x1] at e9
    refine q_invV (mc' := 1) (ms' := 6) (d' := d - 1) (as := [.int (xid)]) dX10_weightOf_12 kM_X8_slotOfKnown kL_X10_138 kI_X8_slotOfKnown kS_X8_slotOfKnown rfl (kC_X8.1) sst.c0 rfl rfl (Nat.le_of_ble_eq_true rfl) (by omega) (by decide) (by omega) (by omega) (e9) (q_kR ?_) q_xR
    have f1 := z_slot_lt x1
    change q_W _ _ _ _ _ _ _ _ 15 [.ref (100), .int (xid)] [.int (nI (v1)), .ref (103)] _
    refine q_ialdN (j := v1) (f := wt) dX10_weightOf_15 sst.c2 (by omega) (by decide) ?_
    change q_W _ _ _ _ _ _ _ _ _ _ [.int (wt v1)] _
    have hE : x_am_weightOf n id wt xid = .inl (wt v1) := by simp only [x_am_weightOf, x1]
    rw [hE]
    exact q_ireturn dX10_weightOf_16 rfl rfl (by omega) (by omega) ⟨rfl, rfl⟩
  · have e9 := e_st_slotOfKnown (g := g) (h := h) (d := d - 1) sst xid (by omega)
    rw [x1] at e9
    refine q_invV (mc' := 1) (ms' := 6) (d' := d - 1) (as := [.int (xid)]) dX10_weightOf_12 kM_X8_slotOfKnown kL_X10_138 kI_X8_slotOfKnown kS_X8_slotOfKnown rfl (kC_X8.1) sst.c0 rfl rfl (Nat.le_of_ble_eq_true rfl) (by omega) (by decide) (by omega) (by omega) (e9) q_kT (q_xT ?_)
    have hE : x_am_weightOf n id wt xid = .inr e1 := by simp only [x_am_weightOf, x1]
    rw [hE]
    exact q_xout rfl ⟨rfl, rfl⟩ (by omega) (by omega)
def x_am_ageOf (n : Nat) (id : Nat → Int32) (ag : Nat → Int32) (xid : Int32) : Int32 ⊕ String := (match x_st_slotOfKnown n id xid with | (.inl v1) => .inl (ag v1) | (.inr e1) => .inr e1)
set_option maxRecDepth 100000 in
set_option maxHeartbeats 8000000 in
theorem e_am_ageOf {g : q_G} {h : q_H} {d : Nat} {hs : Bool} {se : Int32} {sf : Int32} (sam : z_Am h 100 hs se sf) {n : Nat} {id : Nat → Int32} {wt : Nat → Int32} {ag : Nat → Int32} {tg : Nat → Int32} {att : Nat → Int32} {ni : Int32} {dy : Int32} {mn : Nat} {mv : Nat → Int32} {en : Int32} {wo : Int32} {br : Int32} (sst : z_S2 h 101 n id wt ag tg att ni dy mn mv en wo br)  (xid : Int32)   (hd : 8 ≤ d) : q_Spec g mX10_ageOf d 1 6 [.ref (100), .int (xid)] h (q_out (q_oI (x_am_ageOf n id ag xid)) h) := by
  have hb_st_n := sst.bn
  have hb_st_mn := sst.bmn
  have ho_st_n := sst.bn
  have ho_st_mn := sst.bmn
  refine q_enter (by decide +kernel) rfl rfl (Nat.le_of_ble_eq_true rfl) (fun hz => ?_)
  change q_W _ _ _ _ _ _ _ _ _ [.ref (100), .int (xid)] [] _
  refine q_aload_n (by first | assumption | omega | decide | (rw [q_R0e]; omega)) dX10_ageOf_0 rfl ?_
  refine q_getf (k := 0) (v := .ref (101)) kC_X10 kL_X10_12 rfl (by decide) dX10_ageOf_1 sam.c0 rfl ?_
  refine q_getf (k := 2) (v := .ref (104)) kC_X8 kL_X10_142 rfl (by decide) dX10_ageOf_4 sst.c0 rfl ?_
  refine q_aload_n (by first | assumption | omega | decide | (rw [q_R0e]; omega)) dX10_ageOf_7 rfl ?_
  refine q_getf (k := 0) (v := .ref (101)) kC_X10 kL_X10_12 rfl (by decide) dX10_ageOf_8 sam.c0 rfl ?_
  refine q_iload_n dX10_ageOf_11 rfl ?_
  rcases x1 : x_st_slotOfKnown n id xid with v1 | e1
  · have e9 := e_st_slotOfKnown (g := g) (h := h) (d := d - 1) sst xid (by omega)
    rw [x1] at e9
    refine q_invV (mc' := 1) (ms' := 6) (d' := d - 1) (as := [.int (xid)]) dX10_ageOf_12 kM_X8_slotOfKnown kL_X10_138 kI_X8_slotOfKnown kS_X8_slotOfKnown rfl (kC_X8.1) sst.c0 rfl rfl (Nat.le_of_ble_eq_true rfl) (by omega) (by decide) (by omega) (by omega) (e9) (q_kR ?_) q_xR
    have f1 := z_slot_lt x1
    change q_W _ _ _ _ _ _ _ _ 15 [.ref (100), .int (xid)] [.int (nI (v1)), .ref (104)] _
    refine q_ialdN (j := v1) (f := ag) dX10_ageOf_15 sst.c3 (by omega) (by decide) ?_
    change q_W _ _ _ _ _ _ _ _ _ _ [.int (ag v1)] _
    have hE : x_am_ageOf n id ag xid = .inl (ag v1) := by simp only [x_am_ageOf, x1]
    rw [hE]
    exact q_ireturn dX10_ageOf_16 rfl rfl (by omega) (by omega) ⟨rfl, rfl⟩
  · have e9 := e_st_slotOfKnown (g := g) (h := h) (d := d - 1) sst xid (by omega)
    rw [x1] at e9
    refine q_invV (mc' := 1) (ms' := 6) (d' := d - 1) (as := [.int (xid)]) dX10_ageOf_12 kM_X8_slotOfKnown kL_X10_138 kI_X8_slotOfKnown kS_X8_slotOfKnown rfl (kC_X8.1) sst.c0 rfl rfl (Nat.le_of_ble_eq_true rfl) (by omega) (by decide) (by omega) (by omega) (e9) q_kT (q_xT ?_)
    have hE : x_am_ageOf n id ag xid = .inr e1 := by simp only [x_am_ageOf, x1]
    rw [hE]
    exact q_xout rfl ⟨rfl, rfl⟩ (by omega) (by omega)
def x_am_strengthOf (n : Nat) (id : Nat → Int32) (wt : Nat → Int32) (ag : Nat → Int32) (xid : Int32) : Int32 ⊕ String := (match x_st_slotOfKnown n id xid with | (.inl v1) => .inl (x_st_strength wt ag v1) | (.inr e1) => .inr e1)
set_option maxRecDepth 100000 in
set_option maxHeartbeats 8000000 in
theorem e_am_strengthOf {g : q_G} {h : q_H} {d : Nat} {hs : Bool} {se : Int32} {sf : Int32} (sam : z_Am h 100 hs se sf) {n : Nat} {id : Nat → Int32} {wt : Nat → Int32} {ag : Nat → Int32} {tg : Nat → Int32} {att : Nat → Int32} {ni : Int32} {dy : Int32} {mn : Nat} {mv : Nat → Int32} {en : Int32} {wo : Int32} {br : Int32} (sst : z_S2 h 101 n id wt ag tg att ni dy mn mv en wo br)  (xid : Int32)   (hd : 8 ≤ d) : q_Spec g mX10_strengthOf d 1 6 [.ref (100), .int (xid)] h (q_out (q_oI (x_am_strengthOf n id wt ag xid)) h) := by
  have hb_st_n := sst.bn
  have hb_st_mn := sst.bmn
  have ho_st_n := sst.bn
  have ho_st_mn := sst.bmn
  refine q_enter (by decide +kernel) rfl rfl (Nat.le_of_ble_eq_true rfl) (fun hz => ?_)
  change q_W _ _ _ _ _ _ _ _ _ [.ref (100), .int (xid)] [] _
  refine q_aload_n (by first | assumption | omega | decide | (rw [q_R0e]; omega)) dX10_strengthOf_0 rfl ?_
  refine q_getf (k := 0) (v := .ref (101)) kC_X10 kL_X10_12 rfl (by decide) dX10_strengthOf_1 sam.c0 rfl ?_
  refine q_aload_n (by first | assumption | omega | decide | (rw [q_R0e]; omega)) dX10_strengthOf_4 rfl ?_
  refine q_getf (k := 0) (v := .ref (101)) kC_X10 kL_X10_12 rfl (by decide) dX10_strengthOf_5 sam.c0 rfl ?_
  refine q_iload_n dX10_strengthOf_8 rfl ?_
  rcases x1 : x_st_slotOfKnown n id xid with v1 | e1
  · have e9 := e_st_slotOfKnown (g := g) (h := h) (d := d - 1) sst xid (by omega)
    rw [x1] at e9
    refine q_invV (mc' := 1) (ms' := 6) (d' := d - 1) (as := [.int (xid)]) dX10_strengthOf_9 kM_X8_slotOfKnown kL_X10_138 kI_X8_slotOfKnown kS_X8_slotOfKnown rfl (kC_X8.1) sst.c0 rfl rfl (Nat.le_of_ble_eq_true rfl) (by omega) (by decide) (by omega) (by omega) (e9) (q_kR ?_) q_xR
    have f1 := z_slot_lt x1
    change q_W _ _ _ _ _ _ _ _ 12 [.ref (100), .int (xid)] [.int (nI (v1)), .ref (101)] _
    refine q_invV (mc' := 0) (ms' := 0) (d' := d - 1) (as := [.int (nI (v1))]) dX10_strengthOf_12 kM_X8_strength kL_X10_145 kI_X8_strength kS_X8_strength rfl (kC_X8.1) sst.c0 rfl rfl (Nat.le_of_ble_eq_true rfl) (by omega) (by decide) (by omega) (by omega) (e_st_strength (d := d - 1) sst v1 (by omega) (by omega)) (q_kR ?_) q_xR
    change q_W _ _ _ _ _ _ _ _ 15 [.ref (100), .int (xid)] [.int (x_st_strength wt ag v1)] _
    have hE : x_am_strengthOf n id wt ag xid = .inl (x_st_strength wt ag v1) := by simp only [x_am_strengthOf, x1]
    rw [hE]
    exact q_ireturn dX10_strengthOf_15 rfl rfl (by omega) (by omega) ⟨rfl, rfl⟩
  · have e9 := e_st_slotOfKnown (g := g) (h := h) (d := d - 1) sst xid (by omega)
    rw [x1] at e9
    refine q_invV (mc' := 1) (ms' := 6) (d' := d - 1) (as := [.int (xid)]) dX10_strengthOf_9 kM_X8_slotOfKnown kL_X10_138 kI_X8_slotOfKnown kS_X8_slotOfKnown rfl (kC_X8.1) sst.c0 rfl rfl (Nat.le_of_ble_eq_true rfl) (by omega) (by decide) (by omega) (by omega) (e9) q_kT (q_xT ?_)
    have hE : x_am_strengthOf n id wt ag xid = .inr e1 := by simp only [x_am_strengthOf, x1]
    rw [hE]
    exact q_xout rfl ⟨rfl, rfl⟩ (by omega) (by omega)
def x_am_attackerCount (n : Nat) (id : Nat → Int32) (att : Nat → Int32) (xid : Int32) : Int32 ⊕ String := (match x_st_slotOfKnown n id xid with | (.inl v1) => .inl (z_bc (att v1)) | (.inr e1) => .inr e1)
set_option maxRecDepth 100000 in
set_option maxHeartbeats 8000000 in
theorem e_am_attackerCount {g : q_G} {h : q_H} {d : Nat} {hs : Bool} {se : Int32} {sf : Int32} (sam : z_Am h 100 hs se sf) {n : Nat} {id : Nat → Int32} {wt : Nat → Int32} {ag : Nat → Int32} {tg : Nat → Int32} {att : Nat → Int32} {ni : Int32} {dy : Int32} {mn : Nat} {mv : Nat → Int32} {en : Int32} {wo : Int32} {br : Int32} (sst : z_S2 h 101 n id wt ag tg att ni dy mn mv en wo br)  (xid : Int32)   (hd : 8 ≤ d) : q_Spec g mX10_attackerCount d 1 6 [.ref (100), .int (xid)] h (q_out (q_oI (x_am_attackerCount n id att xid)) h) := by
  have hb_st_n := sst.bn
  have hb_st_mn := sst.bmn
  have ho_st_n := sst.bn
  have ho_st_mn := sst.bmn
  refine q_enter (by decide +kernel) rfl rfl (Nat.le_of_ble_eq_true rfl) (fun hz => ?_)
  change q_W _ _ _ _ _ _ _ _ _ [.ref (100), .int (xid)] [] _
  refine q_aload_n (by first | assumption | omega | decide | (rw [q_R0e]; omega)) dX10_attackerCount_0 rfl ?_
  refine q_getf (k := 0) (v := .ref (101)) kC_X10 kL_X10_12 rfl (by decide) dX10_attackerCount_1 sam.c0 rfl ?_
  refine q_getf (k := 4) (v := .ref (106)) kC_X8 kL_X10_164 rfl (by decide) dX10_attackerCount_4 sst.c0 rfl ?_
  refine q_aload_n (by first | assumption | omega | decide | (rw [q_R0e]; omega)) dX10_attackerCount_7 rfl ?_
  refine q_getf (k := 0) (v := .ref (101)) kC_X10 kL_X10_12 rfl (by decide) dX10_attackerCount_8 sam.c0 rfl ?_
  refine q_iload_n dX10_attackerCount_11 rfl ?_
  rcases x1 : x_st_slotOfKnown n id xid with v1 | e1
  · have e9 := e_st_slotOfKnown (g := g) (h := h) (d := d - 1) sst xid (by omega)
    rw [x1] at e9
    refine q_invV (mc' := 1) (ms' := 6) (d' := d - 1) (as := [.int (xid)]) dX10_attackerCount_12 kM_X8_slotOfKnown kL_X10_138 kI_X8_slotOfKnown kS_X8_slotOfKnown rfl (kC_X8.1) sst.c0 rfl rfl (Nat.le_of_ble_eq_true rfl) (by omega) (by decide) (by omega) (by omega) (e9) (q_kR ?_) q_xR
    have f1 := z_slot_lt x1
    change q_W _ _ _ _ _ _ _ _ 15 [.ref (100), .int (xid)] [.int (nI (v1)), .ref (106)] _
    refine q_ialdN (j := v1) (f := att) dX10_attackerCount_15 sst.c5 (by omega) (by decide) ?_
    change q_W _ _ _ _ _ _ _ _ _ _ [.int (att v1)] _
    refine q_invS (mc' := 0) (ms' := 0) (d' := d - 1) (as := [.int (att v1)]) dX10_attackerCount_16 kM_J6_bitCount_0f7a4 kL_X10_167 kT_J6_bitCount_0f7a4 rfl rfl rfl (Nat.le_of_ble_eq_true rfl) (by omega) (by decide) (by omega) (by omega) (e_bitCount (d := d - 1)) (q_kR ?_) q_xR
    change q_W _ _ _ _ _ _ _ _ 19 [.ref (100), .int (xid)] [.int (z_bc (att v1))] _
    have hE : x_am_attackerCount n id att xid = .inl (z_bc (att v1)) := by simp only [x_am_attackerCount, x1]
    rw [hE]
    exact q_ireturn dX10_attackerCount_19 rfl rfl (by omega) (by omega) ⟨rfl, rfl⟩
  · have e9 := e_st_slotOfKnown (g := g) (h := h) (d := d - 1) sst xid (by omega)
    rw [x1] at e9
    refine q_invV (mc' := 1) (ms' := 6) (d' := d - 1) (as := [.int (xid)]) dX10_attackerCount_12 kM_X8_slotOfKnown kL_X10_138 kI_X8_slotOfKnown kS_X8_slotOfKnown rfl (kC_X8.1) sst.c0 rfl rfl (Nat.le_of_ble_eq_true rfl) (by omega) (by decide) (by omega) (by omega) (e9) q_kT (q_xT ?_)
    have hE : x_am_attackerCount n id att xid = .inr e1 := by simp only [x_am_attackerCount, x1]
    rw [hE]
    exact q_xout rfl ⟨rfl, rfl⟩ (by omega) (by omega)
def x_am_hasAttack (n : Nat) (id : Nat → Int32) (tg : Nat → Int32) (xf : Int32) (xt : Int32) : Bool ⊕ String := (match x_st_slotOfKnown n id xf with | (.inl v1) => (match x_st_slotOfKnown n id xt with | (.inl v3) => .inl (z_has (tg v1) v3) | (.inr e3) => .inr e3) | (.inr e1) => .inr e1)
set_option maxRecDepth 100000 in
set_option maxHeartbeats 8000000 in
theorem e_am_hasAttack {g : q_G} {h : q_H} {d : Nat} {hs : Bool} {se : Int32} {sf : Int32} (sam : z_Am h 100 hs se sf) {n : Nat} {id : Nat → Int32} {wt : Nat → Int32} {ag : Nat → Int32} {tg : Nat → Int32} {att : Nat → Int32} {ni : Int32} {dy : Int32} {mn : Nat} {mv : Nat → Int32} {en : Int32} {wo : Int32} {br : Int32} (sst : z_S2 h 101 n id wt ag tg att ni dy mn mv en wo br)  (xf : Int32) (xt : Int32)   (hd : 8 ≤ d) : q_Spec g mX10_hasAttack d 2 12 [.ref (100), .int (xf), .int (xt)] h (q_out (q_oB (x_am_hasAttack n id tg xf xt)) h) := by
  have hb_st_n := sst.bn
  have hb_st_mn := sst.bmn
  have ho_st_n := sst.bn
  have ho_st_mn := sst.bmn
  refine q_enter (by decide +kernel) rfl rfl (Nat.le_of_ble_eq_true rfl) (fun hz => ?_)
  change q_W _ _ _ _ _ _ _ _ _ [.ref (100), .int (xf), .int (xt), q_u, q_u] [] _
  refine q_aload_n (by first | assumption | omega | decide | (rw [q_R0e]; omega)) dX10_hasAttack_0 rfl ?_
  refine q_getf (k := 0) (v := .ref (101)) kC_X10 kL_X10_12 rfl (by decide) dX10_hasAttack_1 sam.c0 rfl ?_
  refine q_iload_n dX10_hasAttack_4 rfl ?_
  rcases x1 : x_st_slotOfKnown n id xf with v1 | e1
  · have e9 := e_st_slotOfKnown (g := g) (h := h) (d := d - 1) sst xf (by omega)
    rw [x1] at e9
    refine q_invV (mc' := 1) (ms' := 6) (d' := d - 1) (as := [.int (xf)]) dX10_hasAttack_5 kM_X8_slotOfKnown kL_X10_138 kI_X8_slotOfKnown kS_X8_slotOfKnown rfl (kC_X8.1) sst.c0 rfl rfl (Nat.le_of_ble_eq_true rfl) (by omega) (by decide) (by omega) (by omega) (e9) (q_kR ?_) q_xR
    have f1 := z_slot_lt x1
    change q_W _ _ _ _ _ _ _ _ 8 [.ref (100), .int (xf), .int (xt), q_u, q_u] [.int (nI (v1))] _
    refine q_istore_n dX10_hasAttack_8 (by decide) rfl ?_
    change q_W _ _ _ _ _ _ _ _ _ [.ref (100), .int (xf), .int (xt), .int (nI (v1)), q_u] [] _
    refine q_aload_n (by first | assumption | omega | decide | (rw [q_R0e]; omega)) dX10_hasAttack_9 rfl ?_
    refine q_getf (k := 0) (v := .ref (101)) kC_X10 kL_X10_12 rfl (by decide) dX10_hasAttack_10 sam.c0 rfl ?_
    refine q_iload_n dX10_hasAttack_13 rfl ?_
    rcases x3 : x_st_slotOfKnown n id xt with v3 | e3
    · have e9 := e_st_slotOfKnown (g := g) (h := h) (d := d - 1) sst xt (by omega)
      rw [x3] at e9
      refine q_invV (mc' := 1) (ms' := 6) (d' := d - 1) (as := [.int (xt)]) dX10_hasAttack_14 kM_X8_slotOfKnown kL_X10_138 kI_X8_slotOfKnown kS_X8_slotOfKnown rfl (kC_X8.1) sst.c0 rfl rfl (Nat.le_of_ble_eq_true rfl) (by omega) (by decide) (by omega) (by omega) (e9) (q_kR ?_) q_xR
      have f3 := z_slot_lt x3
      change q_W _ _ _ _ _ _ _ _ 17 [.ref (100), .int (xf), .int (xt), .int (nI (v1)), q_u] [.int (nI (v3))] _
      refine q_istore dX10_hasAttack_17 (by decide) rfl ?_
      change q_W _ _ _ _ _ _ _ _ _ [.ref (100), .int (xf), .int (xt), .int (nI (v1)), .int (nI (v3))] [] _
      refine q_aload_n (by first | assumption | omega | decide | (rw [q_R0e]; omega)) dX10_hasAttack_19 rfl ?_
      refine q_getf (k := 0) (v := .ref (101)) kC_X10 kL_X10_12 rfl (by decide) dX10_hasAttack_20 sam.c0 rfl ?_
      refine q_getf (k := 3) (v := .ref (105)) kC_X8 kL_X10_152 rfl (by decide) dX10_hasAttack_23 sst.c0 rfl ?_
      refine q_iload_n dX10_hasAttack_26 rfl ?_
      refine q_ialdN (j := v1) (f := tg) dX10_hasAttack_27 sst.c4 (by omega) (by decide) ?_
      change q_W _ _ _ _ _ _ _ _ _ _ [.int (tg v1)] _
      refine q_iload dX10_hasAttack_28 rfl ?_
      refine q_invS (mc' := 0) (ms' := 0) (d' := d - 1) (as := [.int (tg v1), .int (nI (v3))]) dX10_hasAttack_30 kM_X10_has kL_X10_155 kT_X10_has rfl rfl rfl (Nat.le_of_ble_eq_true rfl) (by omega) (by decide) (by omega) (by omega) (e_has (d := d - 1)) (q_kR ?_) q_xR
      change q_W _ _ _ _ _ _ _ _ 33 [.ref (100), .int (xf), .int (xt), .int (nI (v1)), .int (nI (v3))] [.int (z_b (z_has (tg v1) v3))] _
      have hE : x_am_hasAttack n id tg xf xt = .inl (z_has (tg v1) v3) := by simp only [x_am_hasAttack, x1, x3]
      rw [hE]
      exact q_ireturn dX10_hasAttack_33 rfl (z_b_nar _) (by omega) (by omega) ⟨rfl, rfl⟩
    · have e9 := e_st_slotOfKnown (g := g) (h := h) (d := d - 1) sst xt (by omega)
      rw [x3] at e9
      refine q_invV (mc' := 1) (ms' := 6) (d' := d - 1) (as := [.int (xt)]) dX10_hasAttack_14 kM_X8_slotOfKnown kL_X10_138 kI_X8_slotOfKnown kS_X8_slotOfKnown rfl (kC_X8.1) sst.c0 rfl rfl (Nat.le_of_ble_eq_true rfl) (by omega) (by decide) (by omega) (by omega) (e9) q_kT (q_xT ?_)
      have hE : x_am_hasAttack n id tg xf xt = .inr e3 := by simp only [x_am_hasAttack, x1, x3]
      rw [hE]
      exact q_xout rfl ⟨rfl, rfl⟩ (by omega) (by omega)
  · have e9 := e_st_slotOfKnown (g := g) (h := h) (d := d - 1) sst xf (by omega)
    rw [x1] at e9
    refine q_invV (mc' := 1) (ms' := 6) (d' := d - 1) (as := [.int (xf)]) dX10_hasAttack_5 kM_X8_slotOfKnown kL_X10_138 kI_X8_slotOfKnown kS_X8_slotOfKnown rfl (kC_X8.1) sst.c0 rfl rfl (Nat.le_of_ble_eq_true rfl) (by omega) (by decide) (by omega) (by omega) (e9) q_kT (q_xT ?_)
    have hE : x_am_hasAttack n id tg xf xt = .inr e1 := by simp only [x_am_hasAttack, x1]
    rw [hE]
    exact q_xout rfl ⟨rfl, rfl⟩ (by omega) (by omega)
def x_am_isSuccessful (n : Nat) (id : Nat → Int32) (tg : Nat → Int32) (att : Nat → Int32) (xf : Int32) (xt : Int32) : Bool ⊕ String := (match x_st_slotOfKnown n id xf with | (.inl v1) => (match x_st_slotOfKnown n id xt with | (.inl v3) => (if z_has (tg v1) v3 then .inl (z_has (att v3) v1) else .inr "java/util/NoSuchElementException") | (.inr e3) => .inr e3) | (.inr e1) => .inr e1)
set_option maxRecDepth 100000 in
set_option maxHeartbeats 8000000 in
theorem e_am_isSuccessful {g : q_G} {h : q_H} {d : Nat} {hs : Bool} {se : Int32} {sf : Int32} (sam : z_Am h 100 hs se sf) {n : Nat} {id : Nat → Int32} {wt : Nat → Int32} {ag : Nat → Int32} {tg : Nat → Int32} {att : Nat → Int32} {ni : Int32} {dy : Int32} {mn : Nat} {mv : Nat → Int32} {en : Int32} {wo : Int32} {br : Int32} (sst : z_S2 h 101 n id wt ag tg att ni dy mn mv en wo br)  (xf : Int32) (xt : Int32)   (hd : 8 ≤ d) : q_Spec g mX10_isSuccessful d 3 18 [.ref (100), .int (xf), .int (xt)] h (q_out (q_oB (x_am_isSuccessful n id tg att xf xt)) h) := by
  have hb_st_n := sst.bn
  have hb_st_mn := sst.bmn
  have ho_st_n := sst.bn
  have ho_st_mn := sst.bmn
  refine q_enter (by decide +kernel) rfl rfl (Nat.le_of_ble_eq_true rfl) (fun hz => ?_)
  change q_W _ _ _ _ _ _ _ _ _ [.ref (100), .int (xf), .int (xt), q_u, q_u] [] _
  refine q_aload_n (by first | assumption | omega | decide | (rw [q_R0e]; omega)) dX10_isSuccessful_0 rfl ?_
  refine q_getf (k := 0) (v := .ref (101)) kC_X10 kL_X10_12 rfl (by decide) dX10_isSuccessful_1 sam.c0 rfl ?_
  refine q_iload_n dX10_isSuccessful_4 rfl ?_
  rcases x1 : x_st_slotOfKnown n id xf with v1 | e1
  · have e9 := e_st_slotOfKnown (g := g) (h := h) (d := d - 1) sst xf (by omega)
    rw [x1] at e9
    refine q_invV (mc' := 1) (ms' := 6) (d' := d - 1) (as := [.int (xf)]) dX10_isSuccessful_5 kM_X8_slotOfKnown kL_X10_138 kI_X8_slotOfKnown kS_X8_slotOfKnown rfl (kC_X8.1) sst.c0 rfl rfl (Nat.le_of_ble_eq_true rfl) (by omega) (by decide) (by omega) (by omega) (e9) (q_kR ?_) q_xR
    have f1 := z_slot_lt x1
    change q_W _ _ _ _ _ _ _ _ 8 [.ref (100), .int (xf), .int (xt), q_u, q_u] [.int (nI (v1))] _
    refine q_istore_n dX10_isSuccessful_8 (by decide) rfl ?_
    change q_W _ _ _ _ _ _ _ _ _ [.ref (100), .int (xf), .int (xt), .int (nI (v1)), q_u] [] _
    refine q_aload_n (by first | assumption | omega | decide | (rw [q_R0e]; omega)) dX10_isSuccessful_9 rfl ?_
    refine q_getf (k := 0) (v := .ref (101)) kC_X10 kL_X10_12 rfl (by decide) dX10_isSuccessful_10 sam.c0 rfl ?_
    refine q_iload_n dX10_isSuccessful_13 rfl ?_
    rcases x3 : x_st_slotOfKnown n id xt with v3 | e3
    · have e9 := e_st_slotOfKnown (g := g) (h := h) (d := d - 1) sst xt (by omega)
      rw [x3] at e9
      refine q_invV (mc' := 1) (ms' := 6) (d' := d - 1) (as := [.int (xt)]) dX10_isSuccessful_14 kM_X8_slotOfKnown kL_X10_138 kI_X8_slotOfKnown kS_X8_slotOfKnown rfl (kC_X8.1) sst.c0 rfl rfl (Nat.le_of_ble_eq_true rfl) (by omega) (by decide) (by omega) (by omega) (e9) (q_kR ?_) q_xR
      have f3 := z_slot_lt x3
      change q_W _ _ _ _ _ _ _ _ 17 [.ref (100), .int (xf), .int (xt), .int (nI (v1)), q_u] [.int (nI (v3))] _
      refine q_istore dX10_isSuccessful_17 (by decide) rfl ?_
      change q_W _ _ _ _ _ _ _ _ _ [.ref (100), .int (xf), .int (xt), .int (nI (v1)), .int (nI (v3))] [] _
      refine q_aload_n (by first | assumption | omega | decide | (rw [q_R0e]; omega)) dX10_isSuccessful_19 rfl ?_
      refine q_getf (k := 0) (v := .ref (101)) kC_X10 kL_X10_12 rfl (by decide) dX10_isSuccessful_20 sam.c0 rfl ?_
      refine q_getf (k := 3) (v := .ref (105)) kC_X8 kL_X10_152 rfl (by decide) dX10_isSuccessful_23 sst.c0 rfl ?_
      refine q_iload_n dX10_isSuccessful_26 rfl ?_
      refine q_ialdN (j := v1) (f := tg) dX10_isSuccessful_27 sst.c4 (by omega) (by decide) ?_
      change q_W _ _ _ _ _ _ _ _ _ _ [.int (tg v1)] _
      refine q_iload dX10_isSuccessful_28 rfl ?_
      refine q_invS (mc' := 0) (ms' := 0) (d' := d - 1) (as := [.int (tg v1), .int (nI (v3))]) dX10_isSuccessful_30 kM_X10_has kL_X10_155 kT_X10_has rfl rfl rfl (Nat.le_of_ble_eq_true rfl) (by omega) (by decide) (by omega) (by omega) (e_has (d := d - 1)) (q_kR ?_) q_xR
      change q_W _ _ _ _ _ _ _ _ 33 [.ref (100), .int (xf), .int (xt), .int (nI (v1)), .int (nI (v3))] [.int (z_b (z_has (tg v1) v3))] _
      refine q_if_ne 46 dX10_isSuccessful_33 (by decide) (fun b33 => ?_) (fun b33 => ?_)
      · have b33 := z_b1 b33
        refine q_aload_n (by first | assumption | omega | decide | (rw [q_R0e]; omega)) dX10_isSuccessful_46 rfl ?_
        refine q_getf (k := 0) (v := .ref (101)) kC_X10 kL_X10_12 rfl (by decide) dX10_isSuccessful_47 sam.c0 rfl ?_
        refine q_getf (k := 4) (v := .ref (106)) kC_X8 kL_X10_164 rfl (by decide) dX10_isSuccessful_50 sst.c0 rfl ?_
        refine q_iload dX10_isSuccessful_53 rfl ?_
        refine q_ialdN (j := v3) (f := att) dX10_isSuccessful_55 sst.c5 (by omega) (by decide) ?_
        change q_W _ _ _ _ _ _ _ _ _ _ [.int (att v3)] _
        refine q_iload_n dX10_isSuccessful_56 rfl ?_
        refine q_invS (mc' := 0) (ms' := 0) (d' := d - 1) (as := [.int (att v3), .int (nI (v1))]) dX10_isSuccessful_57 kM_X10_has kL_X10_155 kT_X10_has rfl rfl rfl (Nat.le_of_ble_eq_true rfl) (by omega) (by decide) (by omega) (by omega) (e_has (d := d - 1)) (q_kR ?_) q_xR
        change q_W _ _ _ _ _ _ _ _ 60 [.ref (100), .int (xf), .int (xt), .int (nI (v1)), .int (nI (v3))] [.int (z_b (z_has (att v3) v1))] _
        have hE : x_am_isSuccessful n id tg att xf xt = .inl (z_has (att v3) v1) := by simp only [x_am_isSuccessful, x1, x3, if_pos b33]
        rw [hE]
        exact q_ireturn dX10_isSuccessful_60 rfl (z_b_nar _) (by omega) (by omega) ⟨rfl, rfl⟩
      · have b33 := z_b0n b33
        have hE : x_am_isSuccessful n id tg att xf xt = .inr "java/util/NoSuchElementException" := by simp only [x_am_isSuccessful, x1, x3, if_neg b33]
        rw [hE]
        refine q_throw kE_X10_163 kR_X10_161 rfl dX10_isSuccessful_36 dX10_isSuccessful_39 dX10_isSuccessful_40 dX10_isSuccessful_42 dX10_isSuccessful_45 (Nat.le_of_ble_eq_true rfl) (by omega) (by omega) (by omega) ?_
        exact q_xout rfl ⟨rfl, rfl⟩ (by omega) (by omega)
    · have e9 := e_st_slotOfKnown (g := g) (h := h) (d := d - 1) sst xt (by omega)
      rw [x3] at e9
      refine q_invV (mc' := 1) (ms' := 6) (d' := d - 1) (as := [.int (xt)]) dX10_isSuccessful_14 kM_X8_slotOfKnown kL_X10_138 kI_X8_slotOfKnown kS_X8_slotOfKnown rfl (kC_X8.1) sst.c0 rfl rfl (Nat.le_of_ble_eq_true rfl) (by omega) (by decide) (by omega) (by omega) (e9) q_kT (q_xT ?_)
      have hE : x_am_isSuccessful n id tg att xf xt = .inr e3 := by simp only [x_am_isSuccessful, x1, x3]
      rw [hE]
      exact q_xout rfl ⟨rfl, rfl⟩ (by omega) (by omega)
  · have e9 := e_st_slotOfKnown (g := g) (h := h) (d := d - 1) sst xf (by omega)
    rw [x1] at e9
    refine q_invV (mc' := 1) (ms' := 6) (d' := d - 1) (as := [.int (xf)]) dX10_isSuccessful_5 kM_X8_slotOfKnown kL_X10_138 kI_X8_slotOfKnown kS_X8_slotOfKnown rfl (kC_X8.1) sst.c0 rfl rfl (Nat.le_of_ble_eq_true rfl) (by omega) (by decide) (by omega) (by omega) (e9) q_kT (q_xT ?_)
    have hE : x_am_isSuccessful n id tg att xf xt = .inr e1 := by simp only [x_am_isSuccessful, x1]
    rw [hE]
    exact q_xout rfl ⟨rfl, rfl⟩ (by omega) (by omega)
def x_am_attackerAt_23 (id : Nat → Int32) (att : Nat → Int32) (xp : Int32) (v1 : Nat) : Nat → Nat → (Int32) → (Unit) ⊕ (Int32 ⊕ String)
  | 0, _, _ => .inl ()
  | r + 1, k, c23_4 => (if z_has (att v1) k then (if (c23_4) = (xp) then .inr (.inl (id k)) else x_am_attackerAt_23 id att xp v1 r (k + 1) (c23_4 + (1))) else x_am_attackerAt_23 id att xp v1 r (k + 1) c23_4)
set_option maxRecDepth 100000 in
set_option maxHeartbeats 8000000 in
theorem l_am_attackerAt_23 {g : q_G} {h : q_H} {d mc ms kc ks : Nat} {Q : q_O → q_H → Prop} {hs : Bool} {se : Int32} {sf : Int32} {n : Nat} {id : Nat → Int32} {wt : Nat → Int32} {ag : Nat → Int32} {tg : Nat → Int32} {att : Nat → Int32} {ni : Int32} {dy : Int32} {mn : Nat} {mv : Nat → Int32} {en : Int32} {wo : Int32} {br : Int32} {xp : Int32} {v1 : Nat} (sam : z_Am h 100 hs se sf) (sst : z_S2 h 101 n id wt ag tg att ni dy mn mv en wo br)  (ho_st_n : n ≤ 8) (ho_st_mn : mn ≤ 12) (f1 : v1 < n)  (hd : 1 ≤ d) (hkc : kc + 0 ≤ mc) (hks : ks + 0 ≤ ms) : ∀ (r k : Nat) (c23_4 : Int32) (hk_23 : k + r = n) (K : ∀ (_ : Unit), x_am_attackerAt_23 id att xp v1 r k c23_4 = .inl () → q_W g mX10_attackerAt d mc ms Q kc ks 70 [q_u, q_u, q_u, q_u, q_u, q_u] [] h) (K2 : ∀ z, x_am_attackerAt_23 id att xp v1 r k c23_4 = .inr z → ∀ o h1, q_out (q_oI z) h o h1 → Q o h1), q_W g mX10_attackerAt d mc ms Q kc ks 23 [.ref (100), q_u, .int (xp), .int (att v1), .int (c23_4), .int (nI (k))] [] h := by
  intro r
  induction r with
  | zero =>
    intro k c23_4  hk_23 K K2
    have hb_st_n := sst.bn
    have hb_st_mn := sst.bmn
    refine q_iload dX10_attackerAt_23 rfl ?_
    refine q_aload_n (by first | assumption | omega | decide | (rw [q_R0e]; omega)) dX10_attackerAt_25 rfl ?_
    refine q_getf (k := 0) (v := .ref (101)) kC_X10 kL_X10_12 rfl (by decide) dX10_attackerAt_26 sam.c0 rfl ?_
    refine q_getf (k := 6) (v := .int (nI (n))) kC_X8 kL_X10_121 rfl (by decide) dX10_attackerAt_29 sst.c0 rfl ?_
    refine q_icmp_ge 70 dX10_attackerAt_32 (by decide) (fun b32 => ?_) (fun b32 => ?_)
    · have b32 := (nI_leI (a := n) (b := k) (by omega) (by omega)).mp b32
      refine q_forget 0 ?_
      refine q_forget 2 ?_
      refine q_forget 3 ?_
      refine q_forget 4 ?_
      refine q_forget 5 ?_
      change q_W _ _ _ _ _ _ _ _ _ [q_u, q_u, q_u, q_u, q_u, q_u] [] _
      exact K () (by simp only [x_am_attackerAt_23])
    · have b32 : ¬ (n ≤ k) := fun q => b32 ((nI_leI (a := n) (b := k) (by omega) (by omega)).mpr q)
      exact absurd b32 (by omega)
  | succ r ih =>
    intro k c23_4  hk_23 K K2
    have hb_st_n := sst.bn
    have hb_st_mn := sst.bmn
    refine q_iload dX10_attackerAt_23 rfl ?_
    refine q_aload_n (by first | assumption | omega | decide | (rw [q_R0e]; omega)) dX10_attackerAt_25 rfl ?_
    refine q_getf (k := 0) (v := .ref (101)) kC_X10 kL_X10_12 rfl (by decide) dX10_attackerAt_26 sam.c0 rfl ?_
    refine q_getf (k := 6) (v := .int (nI (n))) kC_X8 kL_X10_121 rfl (by decide) dX10_attackerAt_29 sst.c0 rfl ?_
    refine q_icmp_ge 70 dX10_attackerAt_32 (by decide) (fun b32 => ?_) (fun b32 => ?_)
    · have b32 := (nI_leI (a := n) (b := k) (by omega) (by omega)).mp b32
      exact absurd b32 (by omega)
    · have b32 : ¬ (n ≤ k) := fun q => b32 ((nI_leI (a := n) (b := k) (by omega) (by omega)).mpr q)
      refine q_iload_n dX10_attackerAt_35 rfl ?_
      refine q_iload dX10_attackerAt_36 rfl ?_
      refine q_invS (mc' := 0) (ms' := 0) (d' := d - 1) (as := [.int (att v1), .int (nI (k))]) dX10_attackerAt_38 kM_X10_has kL_X10_155 kT_X10_has rfl rfl rfl (Nat.le_of_ble_eq_true rfl) (by omega) (by decide) (by omega) (by omega) (e_has (d := d - 1)) (q_kR ?_) q_xR
      change q_W _ _ _ _ _ _ _ _ 41 [.ref (100), q_u, .int (xp), .int (att v1), .int (c23_4), .int (nI (k))] [.int (z_b (z_has (att v1) k))] _
      refine q_if_eq 64 dX10_attackerAt_41 (by decide) (fun b41 => ?_) (fun b41 => ?_)
      · have b41 := z_b0n b41
        refine q_iinc (x := nI (k)) (v := nI (k + 1)) dX10_attackerAt_64 rfl (nI_add _ 1) rfl ?_
        change q_W _ _ _ _ _ _ _ _ _ [.ref (100), q_u, .int (xp), .int (att v1), .int (c23_4), .int (nI (k + 1))] [] _
        refine q_goto 23 dX10_attackerAt_67 (by decide) ?_
        change q_W _ _ _ _ _ _ _ _ _ [.ref (100), q_u, .int (xp), .int (att v1), .int (c23_4), .int (nI (k + 1))] [] _
        exact ih (k + 1) c23_4 (by omega) (fun _ e9 => K () (by simp only [x_am_attackerAt_23, if_neg b41]; exact e9)) (fun z9 e9 => K2 z9 (by simp only [x_am_attackerAt_23, if_neg b41]; exact e9))
      · have b41 := z_b1 b41
        refine q_iload dX10_attackerAt_44 rfl ?_
        refine q_iload_n dX10_attackerAt_46 rfl ?_
        refine q_icmp_ne 61 dX10_attackerAt_47 (by decide) (fun b47 => ?_) (fun b47 => ?_)
        · refine q_iinc (x := c23_4) (v := c23_4 + (1)) dX10_attackerAt_61 rfl rfl rfl ?_
          change q_W _ _ _ _ _ _ _ _ _ [.ref (100), q_u, .int (xp), .int (att v1), .int (c23_4 + (1)), .int (nI (k))] [] _
          refine q_iinc (x := nI (k)) (v := nI (k + 1)) dX10_attackerAt_64 rfl (nI_add _ 1) rfl ?_
          change q_W _ _ _ _ _ _ _ _ _ [.ref (100), q_u, .int (xp), .int (att v1), .int (c23_4 + (1)), .int (nI (k + 1))] [] _
          refine q_goto 23 dX10_attackerAt_67 (by decide) ?_
          change q_W _ _ _ _ _ _ _ _ _ [.ref (100), q_u, .int (xp), .int (att v1), .int (c23_4 + (1)), .int (nI (k + 1))] [] _
          exact ih (k + 1) (c23_4 + (1)) (by omega) (fun _ e9 => K () (by simp only [x_am_attackerAt_23, if_pos b41, if_neg b47]; exact e9)) (fun z9 e9 => K2 z9 (by simp only [x_am_attackerAt_23, if_pos b41, if_neg b47]; exact e9))
        · refine q_aload_n (by first | assumption | omega | decide | (rw [q_R0e]; omega)) dX10_attackerAt_50 rfl ?_
          refine q_getf (k := 0) (v := .ref (101)) kC_X10 kL_X10_12 rfl (by decide) dX10_attackerAt_51 sam.c0 rfl ?_
          refine q_getf (k := 0) (v := .ref (102)) kC_X8 kL_X10_131 rfl (by decide) dX10_attackerAt_54 sst.c0 rfl ?_
          refine q_iload dX10_attackerAt_57 rfl ?_
          refine q_ialdN (j := k) (f := id) dX10_attackerAt_59 sst.c1 (by omega) (by decide) ?_
          change q_W _ _ _ _ _ _ _ _ _ _ [.int (id k)] _
          exact q_ireturn dX10_attackerAt_60 rfl rfl (by omega) (by omega) (K2 (.inl (id k)) (by simp only [x_am_attackerAt_23, if_pos b41, if_pos b47]) _ _ ⟨rfl, rfl⟩)
def x_am_attackerAt (n : Nat) (id : Nat → Int32) (att : Nat → Int32) (xid : Int32) (xp : Int32) : Int32 ⊕ String := (match x_st_slotOfKnown n id xid with | (.inl v1) => (match x_am_attackerAt_23 id att xp v1 n 0 0 with | .inl () => .inr "java/lang/IndexOutOfBoundsException" | .inr zz => zz) | (.inr e1) => .inr e1)
set_option maxRecDepth 100000 in
set_option maxHeartbeats 8000000 in
theorem e_am_attackerAt {g : q_G} {h : q_H} {d : Nat} {hs : Bool} {se : Int32} {sf : Int32} (sam : z_Am h 100 hs se sf) {n : Nat} {id : Nat → Int32} {wt : Nat → Int32} {ag : Nat → Int32} {tg : Nat → Int32} {att : Nat → Int32} {ni : Int32} {dy : Int32} {mn : Nat} {mv : Nat → Int32} {en : Int32} {wo : Int32} {br : Int32} (sst : z_S2 h 101 n id wt ag tg att ni dy mn mv en wo br)  (xid : Int32) (xp : Int32)   (hd : 8 ≤ d) : q_Spec g mX10_attackerAt d 2 12 [.ref (100), .int (xid), .int (xp)] h (q_out (q_oI (x_am_attackerAt n id att xid xp)) h) := by
  have hb_st_n := sst.bn
  have hb_st_mn := sst.bmn
  have ho_st_n := sst.bn
  have ho_st_mn := sst.bmn
  refine q_enter (by decide +kernel) rfl rfl (Nat.le_of_ble_eq_true rfl) (fun hz => ?_)
  change q_W _ _ _ _ _ _ _ _ _ [.ref (100), .int (xid), .int (xp), q_u, q_u, q_u] [] _
  refine q_aload_n (by first | assumption | omega | decide | (rw [q_R0e]; omega)) dX10_attackerAt_0 rfl ?_
  refine q_getf (k := 0) (v := .ref (101)) kC_X10 kL_X10_12 rfl (by decide) dX10_attackerAt_1 sam.c0 rfl ?_
  refine q_getf (k := 4) (v := .ref (106)) kC_X8 kL_X10_164 rfl (by decide) dX10_attackerAt_4 sst.c0 rfl ?_
  refine q_aload_n (by first | assumption | omega | decide | (rw [q_R0e]; omega)) dX10_attackerAt_7 rfl ?_
  refine q_getf (k := 0) (v := .ref (101)) kC_X10 kL_X10_12 rfl (by decide) dX10_attackerAt_8 sam.c0 rfl ?_
  refine q_iload_n dX10_attackerAt_11 rfl ?_
  rcases x1 : x_st_slotOfKnown n id xid with v1 | e1
  · have e9 := e_st_slotOfKnown (g := g) (h := h) (d := d - 1) sst xid (by omega)
    rw [x1] at e9
    refine q_invV (mc' := 1) (ms' := 6) (d' := d - 1) (as := [.int (xid)]) dX10_attackerAt_12 kM_X8_slotOfKnown kL_X10_138 kI_X8_slotOfKnown kS_X8_slotOfKnown rfl (kC_X8.1) sst.c0 rfl rfl (Nat.le_of_ble_eq_true rfl) (by omega) (by decide) (by omega) (by omega) (e9) (q_kR ?_) q_xR
    have f1 := z_slot_lt x1
    change q_W _ _ _ _ _ _ _ _ 15 [.ref (100), .int (xid), .int (xp), q_u, q_u, q_u] [.int (nI (v1)), .ref (106)] _
    refine q_ialdN (j := v1) (f := att) dX10_attackerAt_15 sst.c5 (by omega) (by decide) ?_
    change q_W _ _ _ _ _ _ _ _ _ _ [.int (att v1)] _
    refine q_istore_n dX10_attackerAt_16 (by decide) rfl ?_
    change q_W _ _ _ _ _ _ _ _ _ [.ref (100), .int (xid), .int (xp), .int (att v1), q_u, q_u] [] _
    refine q_iconst (v := 0) dX10_attackerAt_17 rfl ?_
    refine q_istore dX10_attackerAt_18 (by decide) rfl ?_
    change q_W _ _ _ _ _ _ _ _ _ [.ref (100), .int (xid), .int (xp), .int (att v1), .int (0), q_u] [] _
    refine q_iconst (v := 0) dX10_attackerAt_20 rfl ?_
    refine q_istore dX10_attackerAt_21 (by decide) rfl ?_
    change q_W _ _ _ _ _ _ _ _ _ [.ref (100), .int (xid), .int (xp), .int (att v1), .int (0), .int (0)] [] _
    refine q_forget 1 ?_
    change q_W _ _ _ _ _ _ _ _ _ [.ref (100), q_u, .int (xp), .int (att v1), .int (0), .int (0)] [] _
    refine l_am_attackerAt_23 sam sst ho_st_n ho_st_mn f1 (by omega) (by omega) (by omega) n 0 0 (by omega) (fun _ x3 => ?_) (fun zz x3 => ?_)
    · change q_W _ _ _ _ _ _ _ _ 70 [q_u, q_u, q_u, q_u, q_u, q_u] [] _
      have hE : x_am_attackerAt n id att xid xp = .inr "java/lang/IndexOutOfBoundsException" := by simp only [x_am_attackerAt, x1, x3]
      rw [hE]
      refine q_throw kE_X10_128 kR_X10_172 rfl dX10_attackerAt_70 dX10_attackerAt_73 dX10_attackerAt_74 dX10_attackerAt_76 dX10_attackerAt_79 (Nat.le_of_ble_eq_true rfl) (by omega) (by omega) (by omega) ?_
      exact q_xout rfl ⟨rfl, rfl⟩ (by omega) (by omega)
    · have hE : x_am_attackerAt n id att xid xp = zz := by simp only [x_am_attackerAt, x1, x3]
      rw [hE]
      exact fun _ _ q9 => q9
  · have e9 := e_st_slotOfKnown (g := g) (h := h) (d := d - 1) sst xid (by omega)
    rw [x1] at e9
    refine q_invV (mc' := 1) (ms' := 6) (d' := d - 1) (as := [.int (xid)]) dX10_attackerAt_12 kM_X8_slotOfKnown kL_X10_138 kI_X8_slotOfKnown kS_X8_slotOfKnown rfl (kC_X8.1) sst.c0 rfl rfl (Nat.le_of_ble_eq_true rfl) (by omega) (by decide) (by omega) (by omega) (e9) q_kT (q_xT ?_)
    have hE : x_am_attackerAt n id att xid xp = .inr e1 := by simp only [x_am_attackerAt, x1]
    rw [hE]
    exact q_xout rfl ⟨rfl, rfl⟩ (by omega) (by omega)
def x_am_argumentByStrength_2 (n : Nat) (id : Nat → Int32) (wt : Nat → Int32) (ag : Nat → Int32) (att : Nat → Int32) (xr : Int32) : Nat → Nat → (Unit) ⊕ (Int32 ⊕ String)
  | 0, _ => .inl ()
  | r + 1, k => (if (x_st_rank n wt ag att k) = (xr) then .inr (.inl (id k)) else x_am_argumentByStrength_2 n id wt ag att xr r (k + 1) )
set_option maxRecDepth 100000 in
set_option maxHeartbeats 8000000 in
theorem l_am_argumentByStrength_2 {g : q_G} {h : q_H} {d mc ms kc ks : Nat} {Q : q_O → q_H → Prop} {hs : Bool} {se : Int32} {sf : Int32} {n : Nat} {id : Nat → Int32} {wt : Nat → Int32} {ag : Nat → Int32} {tg : Nat → Int32} {att : Nat → Int32} {ni : Int32} {dy : Int32} {mn : Nat} {mv : Nat → Int32} {en : Int32} {wo : Int32} {br : Int32} {xr : Int32} (sam : z_Am h 100 hs se sf) (sst : z_S2 h 101 n id wt ag tg att ni dy mn mv en wo br)  (ho_st_n : n ≤ 8) (ho_st_mn : mn ≤ 12)  (hd : 3 ≤ d) (hkc : kc + 0 ≤ mc) (hks : ks + 0 ≤ ms) : ∀ (r k : Nat)  (hk_2 : k + r = n) (K : ∀ (_ : Unit), x_am_argumentByStrength_2 n id wt ag att xr r k  = .inl () → q_W g mX10_argumentByStrength d mc ms Q kc ks 41 [q_u, q_u, q_u] [] h) (K2 : ∀ z, x_am_argumentByStrength_2 n id wt ag att xr r k  = .inr z → ∀ o h1, q_out (q_oI z) h o h1 → Q o h1), q_W g mX10_argumentByStrength d mc ms Q kc ks 2 [.ref (100), .int (xr), .int (nI (k))] [] h := by
  intro r
  induction r with
  | zero =>
    intro k   hk_2 K K2
    have hb_st_n := sst.bn
    have hb_st_mn := sst.bmn
    refine q_iload_n dX10_argumentByStrength_2 rfl ?_
    refine q_aload_n (by first | assumption | omega | decide | (rw [q_R0e]; omega)) dX10_argumentByStrength_3 rfl ?_
    refine q_getf (k := 0) (v := .ref (101)) kC_X10 kL_X10_12 rfl (by decide) dX10_argumentByStrength_4 sam.c0 rfl ?_
    refine q_getf (k := 6) (v := .int (nI (n))) kC_X8 kL_X10_121 rfl (by decide) dX10_argumentByStrength_7 sst.c0 rfl ?_
    refine q_icmp_ge 41 dX10_argumentByStrength_10 (by decide) (fun b10 => ?_) (fun b10 => ?_)
    · have b10 := (nI_leI (a := n) (b := k) (by omega) (by omega)).mp b10
      refine q_forget 0 ?_
      refine q_forget 1 ?_
      refine q_forget 2 ?_
      change q_W _ _ _ _ _ _ _ _ _ [q_u, q_u, q_u] [] _
      exact K () (by simp only [x_am_argumentByStrength_2])
    · have b10 : ¬ (n ≤ k) := fun q => b10 ((nI_leI (a := n) (b := k) (by omega) (by omega)).mpr q)
      exact absurd b10 (by omega)
  | succ r ih =>
    intro k   hk_2 K K2
    have hb_st_n := sst.bn
    have hb_st_mn := sst.bmn
    refine q_iload_n dX10_argumentByStrength_2 rfl ?_
    refine q_aload_n (by first | assumption | omega | decide | (rw [q_R0e]; omega)) dX10_argumentByStrength_3 rfl ?_
    refine q_getf (k := 0) (v := .ref (101)) kC_X10 kL_X10_12 rfl (by decide) dX10_argumentByStrength_4 sam.c0 rfl ?_
    refine q_getf (k := 6) (v := .int (nI (n))) kC_X8 kL_X10_121 rfl (by decide) dX10_argumentByStrength_7 sst.c0 rfl ?_
    refine q_icmp_ge 41 dX10_argumentByStrength_10 (by decide) (fun b10 => ?_) (fun b10 => ?_)
    · have b10 := (nI_leI (a := n) (b := k) (by omega) (by omega)).mp b10
      exact absurd b10 (by omega)
    · have b10 : ¬ (n ≤ k) := fun q => b10 ((nI_leI (a := n) (b := k) (by omega) (by omega)).mpr q)
      refine q_aload_n (by first | assumption | omega | decide | (rw [q_R0e]; omega)) dX10_argumentByStrength_13 rfl ?_
      refine q_getf (k := 0) (v := .ref (101)) kC_X10 kL_X10_12 rfl (by decide) dX10_argumentByStrength_14 sam.c0 rfl ?_
      refine q_iload_n dX10_argumentByStrength_17 rfl ?_
      refine q_invV (mc' := 0) (ms' := 0) (d' := d - 1) (as := [.int (nI (k))]) dX10_argumentByStrength_18 kM_X8_rank kL_X10_242 kI_X8_rank kS_X8_rank rfl (kC_X8.1) sst.c0 rfl rfl (Nat.le_of_ble_eq_true rfl) (by omega) (by decide) (by omega) (by omega) (e_st_rank (d := d - 1) sst k (by omega) (by omega)) (q_kR ?_) q_xR
      change q_W _ _ _ _ _ _ _ _ 21 [.ref (100), .int (xr), .int (nI (k))] [.int (x_st_rank n wt ag att k)] _
      refine q_iload_n dX10_argumentByStrength_21 rfl ?_
      refine q_icmp_ne 35 dX10_argumentByStrength_22 (by decide) (fun b22 => ?_) (fun b22 => ?_)
      · refine q_iinc (x := nI (k)) (v := nI (k + 1)) dX10_argumentByStrength_35 rfl (nI_add _ 1) rfl ?_
        change q_W _ _ _ _ _ _ _ _ _ [.ref (100), .int (xr), .int (nI (k + 1))] [] _
        refine q_goto 2 dX10_argumentByStrength_38 (by decide) ?_
        change q_W _ _ _ _ _ _ _ _ _ [.ref (100), .int (xr), .int (nI (k + 1))] [] _
        exact ih (k + 1)  (by omega) (fun _ e9 => K () (by simp only [x_am_argumentByStrength_2, if_neg b22]; exact e9)) (fun z9 e9 => K2 z9 (by simp only [x_am_argumentByStrength_2, if_neg b22]; exact e9))
      · refine q_aload_n (by first | assumption | omega | decide | (rw [q_R0e]; omega)) dX10_argumentByStrength_25 rfl ?_
        refine q_getf (k := 0) (v := .ref (101)) kC_X10 kL_X10_12 rfl (by decide) dX10_argumentByStrength_26 sam.c0 rfl ?_
        refine q_getf (k := 0) (v := .ref (102)) kC_X8 kL_X10_131 rfl (by decide) dX10_argumentByStrength_29 sst.c0 rfl ?_
        refine q_iload_n dX10_argumentByStrength_32 rfl ?_
        refine q_ialdN (j := k) (f := id) dX10_argumentByStrength_33 sst.c1 (by omega) (by decide) ?_
        change q_W _ _ _ _ _ _ _ _ _ _ [.int (id k)] _
        exact q_ireturn dX10_argumentByStrength_34 rfl rfl (by omega) (by omega) (K2 (.inl (id k)) (by simp only [x_am_argumentByStrength_2, if_pos b22]) _ _ ⟨rfl, rfl⟩)
def x_am_argumentByStrength (n : Nat) (id : Nat → Int32) (wt : Nat → Int32) (ag : Nat → Int32) (att : Nat → Int32) (xr : Int32) : Int32 ⊕ String := (match x_am_argumentByStrength_2 n id wt ag att xr n 0 with | .inl () => .inr "java/util/NoSuchElementException" | .inr zz => zz)
set_option maxRecDepth 100000 in
set_option maxHeartbeats 8000000 in
theorem e_am_argumentByStrength {g : q_G} {h : q_H} {d : Nat} {hs : Bool} {se : Int32} {sf : Int32} (sam : z_Am h 100 hs se sf) {n : Nat} {id : Nat → Int32} {wt : Nat → Int32} {ag : Nat → Int32} {tg : Nat → Int32} {att : Nat → Int32} {ni : Int32} {dy : Int32} {mn : Nat} {mv : Nat → Int32} {en : Int32} {wo : Int32} {br : Int32} (sst : z_S2 h 101 n id wt ag tg att ni dy mn mv en wo br)  (xr : Int32)   (hd : 7 ≤ d) : q_Spec g mX10_argumentByStrength d 1 6 [.ref (100), .int (xr)] h (q_out (q_oI (x_am_argumentByStrength n id wt ag att xr)) h) := by
  have hb_st_n := sst.bn
  have hb_st_mn := sst.bmn
  have ho_st_n := sst.bn
  have ho_st_mn := sst.bmn
  refine q_enter (by decide +kernel) rfl rfl (Nat.le_of_ble_eq_true rfl) (fun hz => ?_)
  change q_W _ _ _ _ _ _ _ _ _ [.ref (100), .int (xr), q_u] [] _
  refine q_iconst (v := 0) dX10_argumentByStrength_0 rfl ?_
  refine q_istore_n dX10_argumentByStrength_1 (by decide) rfl ?_
  change q_W _ _ _ _ _ _ _ _ _ [.ref (100), .int (xr), .int (0)] [] _
  change q_W _ _ _ _ _ _ _ _ _ [.ref (100), .int (xr), .int (0)] [] _
  refine l_am_argumentByStrength_2 sam sst ho_st_n ho_st_mn (by omega) (by omega) (by omega) n 0 (by omega) (fun _ x1 => ?_) (fun zz x1 => ?_)
  · change q_W _ _ _ _ _ _ _ _ 41 [q_u, q_u, q_u] [] _
    have hE : x_am_argumentByStrength n id wt ag att xr = .inr "java/util/NoSuchElementException" := by simp only [x_am_argumentByStrength, x1]
    rw [hE]
    refine q_throw kE_X10_163 kR_X10_245 rfl dX10_argumentByStrength_41 dX10_argumentByStrength_44 dX10_argumentByStrength_45 dX10_argumentByStrength_47 dX10_argumentByStrength_50 (Nat.le_of_ble_eq_true rfl) (by omega) (by omega) (by omega) ?_
    exact q_xout rfl ⟨rfl, rfl⟩ (by omega) (by omega)
  · have hE : x_am_argumentByStrength n id wt ag att xr = zz := by simp only [x_am_argumentByStrength, x1]
    rw [hE]
    exact fun _ _ q9 => q9
def x_am_canMove (n : Nat) (id : Nat → Int32) (att : Nat → Int32) (mn : Nat) (mv : Nat → Int32) (xid : Int32) : Bool ⊕ String := (match x_st_slotOfReply n id mn xid with | (.inl v1) => (match x_st_isAllowed n id att mn mv v1 with | (.inl v3) => (if v3 then (if x_dl_isFull mn then .inl false else .inl true) else .inl false) | (.inr e3) => .inr e3) | (.inr e1) => .inr e1)
set_option maxRecDepth 100000 in
set_option maxHeartbeats 8000000 in
theorem e_am_canMove {g : q_G} {h : q_H} {d : Nat} {hs : Bool} {se : Int32} {sf : Int32} (sam : z_Am h 100 hs se sf) {n : Nat} {id : Nat → Int32} {wt : Nat → Int32} {ag : Nat → Int32} {tg : Nat → Int32} {att : Nat → Int32} {ni : Int32} {dy : Int32} {mn : Nat} {mv : Nat → Int32} {en : Int32} {wo : Int32} {br : Int32} (sst : z_S2 h 101 n id wt ag tg att ni dy mn mv en wo br)  (xid : Int32)   (hd : 9 ≤ d) : q_Spec g mX10_canMove d 3 18 [.ref (100), .int (xid)] h (q_out (q_oB (x_am_canMove n id att mn mv xid)) h) := by
  have hb_st_n := sst.bn
  have hb_st_mn := sst.bmn
  have ho_st_n := sst.bn
  have ho_st_mn := sst.bmn
  refine q_enter (by decide +kernel) rfl rfl (Nat.le_of_ble_eq_true rfl) (fun hz => ?_)
  change q_W _ _ _ _ _ _ _ _ _ [.ref (100), .int (xid), q_u] [] _
  refine q_aload_n (by first | assumption | omega | decide | (rw [q_R0e]; omega)) dX10_canMove_0 rfl ?_
  refine q_getf (k := 0) (v := .ref (101)) kC_X10 kL_X10_12 rfl (by decide) dX10_canMove_1 sam.c0 rfl ?_
  refine q_iload_n dX10_canMove_4 rfl ?_
  rcases x1 : x_st_slotOfReply n id mn xid with v1 | e1
  · have e9 := e_st_slotOfReply (g := g) (h := h) (d := d - 1) sst xid (by omega)
    rw [x1] at e9
    refine q_invV (mc' := 2) (ms' := 12) (d' := d - 1) (as := [.int (xid)]) dX10_canMove_5 kM_X8_slotOfReply kL_X10_263 kI_X8_slotOfReply kS_X8_slotOfReply rfl (kC_X8.1) sst.c0 rfl rfl (Nat.le_of_ble_eq_true rfl) (by omega) (by decide) (by omega) (by omega) (e9) (q_kR ?_) q_xR
    have f1 := z_slotR_lt x1
    change q_W _ _ _ _ _ _ _ _ 8 [.ref (100), .int (xid), q_u] [.int (nI (v1))] _
    refine q_istore_n dX10_canMove_8 (by decide) rfl ?_
    change q_W _ _ _ _ _ _ _ _ _ [.ref (100), .int (xid), .int (nI (v1))] [] _
    refine q_aload_n (by first | assumption | omega | decide | (rw [q_R0e]; omega)) dX10_canMove_9 rfl ?_
    refine q_getf (k := 0) (v := .ref (101)) kC_X10 kL_X10_12 rfl (by decide) dX10_canMove_10 sam.c0 rfl ?_
    refine q_iload_n dX10_canMove_13 rfl ?_
    rcases x3 : x_st_isAllowed n id att mn mv v1 with v3 | e3
    · have e9 := e_st_isAllowed (g := g) (h := h) (d := d - 1) sst v1 (by omega) (by omega)
      rw [x3] at e9
      refine q_invV (mc' := 1) (ms' := 6) (d' := d - 1) (as := [.int (nI (v1))]) dX10_canMove_14 kM_X8_isAllowed kL_X10_266 kI_X8_isAllowed kS_X8_isAllowed rfl (kC_X8.1) sst.c0 rfl rfl (Nat.le_of_ble_eq_true rfl) (by omega) (by decide) (by omega) (by omega) (e9) (q_kR ?_) q_xR
      change q_W _ _ _ _ _ _ _ _ 17 [.ref (100), .int (xid), .int (nI (v1))] [.int (z_b (v3))] _
      refine q_if_eq 37 dX10_canMove_17 (by decide) (fun b17 => ?_) (fun b17 => ?_)
      · have b17 := z_b0n b17
        refine q_iconst (v := 0) dX10_canMove_37 rfl ?_
        have hE : x_am_canMove n id att mn mv xid = .inl false := by simp only [x_am_canMove, x1, x3, if_neg b17]
        rw [hE]
        exact q_ireturn dX10_canMove_38 rfl rfl (by omega) (by omega) ⟨rfl, rfl⟩
      · have b17 := z_b1 b17
        refine q_aload_n (by first | assumption | omega | decide | (rw [q_R0e]; omega)) dX10_canMove_20 rfl ?_
        refine q_getf (k := 0) (v := .ref (101)) kC_X10 kL_X10_12 rfl (by decide) dX10_canMove_21 sam.c0 rfl ?_
        refine q_getf (k := 5) (v := .ref (107)) kC_X8 kL_X10_247 rfl (by decide) dX10_canMove_24 sst.c0 rfl ?_
        refine q_invV (mc' := 0) (ms' := 0) (d' := d - 1) (as := []) dX10_canMove_27 kM_X2_isFull kL_X10_269 kI_X2_isFull kS_X2_isFull rfl (kC_X2.1) sst.c6 rfl rfl (Nat.le_of_ble_eq_true rfl) (by omega) (by decide) (by omega) (by omega) (e_dl_isFull (d := d - 1) (sst.dl) (by omega)) (q_kR ?_) q_xR
        change q_W _ _ _ _ _ _ _ _ 30 [.ref (100), .int (xid), .int (nI (v1))] [.int (z_b (x_dl_isFull mn))] _
        refine q_if_ne 37 dX10_canMove_30 (by decide) (fun b30 => ?_) (fun b30 => ?_)
        · have b30 := z_b1 b30
          have fb30 : 12 ≤ mn := z_full b30
          refine q_iconst (v := 0) dX10_canMove_37 rfl ?_
          have hE : x_am_canMove n id att mn mv xid = .inl false := by simp only [x_am_canMove, x1, x3, if_pos b17, if_pos b30]
          rw [hE]
          exact q_ireturn dX10_canMove_38 rfl rfl (by omega) (by omega) ⟨rfl, rfl⟩
        · have b30 := z_b0n b30
          have fb30 : mn < 12 := z_nfull b30
          refine q_iconst (v := 1) dX10_canMove_33 rfl ?_
          refine q_goto 38 dX10_canMove_34 (by decide) ?_
          have hE : x_am_canMove n id att mn mv xid = .inl true := by simp only [x_am_canMove, x1, x3, if_pos b17, if_neg b30]
          rw [hE]
          exact q_ireturn dX10_canMove_38 rfl rfl (by omega) (by omega) ⟨rfl, rfl⟩
    · have e9 := e_st_isAllowed (g := g) (h := h) (d := d - 1) sst v1 (by omega) (by omega)
      rw [x3] at e9
      refine q_invV (mc' := 1) (ms' := 6) (d' := d - 1) (as := [.int (nI (v1))]) dX10_canMove_14 kM_X8_isAllowed kL_X10_266 kI_X8_isAllowed kS_X8_isAllowed rfl (kC_X8.1) sst.c0 rfl rfl (Nat.le_of_ble_eq_true rfl) (by omega) (by decide) (by omega) (by omega) (e9) q_kT (q_xT ?_)
      have hE : x_am_canMove n id att mn mv xid = .inr e3 := by simp only [x_am_canMove, x1, x3]
      rw [hE]
      exact q_xout rfl ⟨rfl, rfl⟩ (by omega) (by omega)
  · have e9 := e_st_slotOfReply (g := g) (h := h) (d := d - 1) sst xid (by omega)
    rw [x1] at e9
    refine q_invV (mc' := 2) (ms' := 12) (d' := d - 1) (as := [.int (xid)]) dX10_canMove_5 kM_X8_slotOfReply kL_X10_263 kI_X8_slotOfReply kS_X8_slotOfReply rfl (kC_X8.1) sst.c0 rfl rfl (Nat.le_of_ble_eq_true rfl) (by omega) (by decide) (by omega) (by omega) (e9) q_kT (q_xT ?_)
    have hE : x_am_canMove n id att mn mv xid = .inr e1 := by simp only [x_am_canMove, x1]
    rw [hE]
    exact q_xout rfl ⟨rfl, rfl⟩ (by omega) (by omega)
def x_am_status (n : Nat) (id : Nat → Int32) (att : Nat → Int32) (ac : Int32) (rj : Int32) (ro : Nat → Int32) (xid : Int32) : (Int32 ⊕ String) × (Int32) × (Int32) × (Nat → Int32) := (match x_st_slotOfKnown n id xid with | (.inl v1) => (match x_lb_give ro n att with | (y3_ac, y3_rj, y3_ro) => (.inl (x_lb_letter y3_ac y3_rj v1), y3_ac, y3_rj, y3_ro)) | (.inr e1) => (.inr e1, ac, rj, ro))
set_option maxRecDepth 100000 in
set_option maxHeartbeats 8000000 in
theorem e_am_status {g : q_G} {h : q_H} {d : Nat} {hs : Bool} {se : Int32} {sf : Int32} (sam : z_Am h 100 hs se sf) {n : Nat} {id : Nat → Int32} {wt : Nat → Int32} {ag : Nat → Int32} {tg : Nat → Int32} {att : Nat → Int32} {ni : Int32} {dy : Int32} {mn : Nat} {mv : Nat → Int32} {en : Int32} {wo : Int32} {br : Int32} (sst : z_S2 h 101 n id wt ag tg att ni dy mn mv en wo br) {ac : Int32} {rj : Int32} {ro : Nat → Int32} (slb : z_Lb h 199 ac rj ro)  (xid : Int32)   (hd : 8 ≤ d) : q_Spec g mX10_status d 1 6 [.ref (100), .int (xid)] h (q_chg (q_oI (x_am_status n id att ac rj ro xid).1) (fun h1 => z_Am h1 100 hs se sf ∧ z_S2 h1 101 n id wt ag tg att ni dy mn mv en wo br ∧ z_Lb h1 199 ((x_am_status n id att ac rj ro xid).2.1) ((x_am_status n id att ac rj ro xid).2.2.1) ((x_am_status n id att ac rj ro xid).2.2.2) ∧ q_same h h1 199 2)) := by
  have hb_st_n := sst.bn
  have hb_st_mn := sst.bmn
  have ho_st_n := sst.bn
  have ho_st_mn := sst.bmn
  have p0 : q_same h h 199 2 := q_same.rfl'
  refine q_enter (by decide +kernel) rfl rfl (Nat.le_of_ble_eq_true rfl) (fun hz => ?_)
  change q_W _ _ _ _ _ _ _ _ _ [.ref (100), .int (xid), q_u] [] _
  refine q_aload_n (by first | assumption | omega | decide | (rw [q_R0e]; omega)) dX10_status_0 rfl ?_
  refine q_getf (k := 0) (v := .ref (101)) kC_X10 kL_X10_12 rfl (by decide) dX10_status_1 sam.c0 rfl ?_
  refine q_iload_n dX10_status_4 rfl ?_
  rcases x1 : x_st_slotOfKnown n id xid with v1 | e1
  · have e9 := e_st_slotOfKnown (g := g) (h := h) (d := d - 1) sst xid (by omega)
    rw [x1] at e9
    refine q_invV (mc' := 1) (ms' := 6) (d' := d - 1) (as := [.int (xid)]) dX10_status_5 kM_X8_slotOfKnown kL_X10_138 kI_X8_slotOfKnown kS_X8_slotOfKnown rfl (kC_X8.1) sst.c0 rfl rfl (Nat.le_of_ble_eq_true rfl) (by omega) (by decide) (by omega) (by omega) (e9) (q_kR ?_) q_xR
    have f1 := z_slot_lt x1
    change q_W _ _ _ _ _ _ _ _ 8 [.ref (100), .int (xid), q_u] [.int (nI (v1))] _
    refine q_istore_n dX10_status_8 (by decide) rfl ?_
    change q_W _ _ _ _ _ _ _ _ _ [.ref (100), .int (xid), .int (nI (v1))] [] _
    refine q_aload_n (by first | assumption | omega | decide | (rw [q_R0e]; omega)) dX10_status_9 rfl ?_
    refine q_getf (k := 4) (v := .ref (199)) kC_X10 kL_X10_32 rfl (by decide) dX10_status_10 sam.c0 rfl ?_
    refine q_aload_n (by first | assumption | omega | decide | (rw [q_R0e]; omega)) dX10_status_13 rfl ?_
    refine q_getf (k := 0) (v := .ref (101)) kC_X10 kL_X10_12 rfl (by decide) dX10_status_14 sam.c0 rfl ?_
    rcases x3 : x_lb_give ro n att with ⟨y3_ac, y3_rj, y3_ro⟩
    have e9 := e_lb_give (g := g) (h := h) (d := d - 1) slb sst (by omega) (by omega)
    rw [x3] at e9
    refine q_invV (mc' := 0) (ms' := 0) (d' := d - 1) (as := [.ref (101)]) dX10_status_17 kM_X6_give kL_X10_174 kI_X6_give kS_X6_give rfl (kC_X6.1) slb.c0 rfl rfl (Nat.le_of_ble_eq_true rfl) (by omega) (by decide) (by omega) (by omega) (e9) (q_kC (fun h4 hB => ?_)) q_xC
    obtain ⟨t4_0, t4_1, pp4⟩ := hB
    have slb4 := t4_0
    have sst4 := t4_1
    have sam4 := sam.keep pp4 (by omega)
    have p4 := p0.trans (pp4.wide (by omega) (by omega))
    change q_W _ _ _ _ _ _ _ _ 20 [.ref (100), .int (xid), .int (nI (v1))] [] _
    refine q_aload_n (by first | assumption | omega | decide | (rw [q_R0e]; omega)) dX10_status_20 rfl ?_
    refine q_getf (k := 4) (v := .ref (199)) kC_X10 kL_X10_32 rfl (by decide) dX10_status_21 sam4.c0 rfl ?_
    refine q_iload_n dX10_status_24 rfl ?_
    refine q_invV (mc' := 0) (ms' := 0) (d' := d - 1) (as := [.int (nI (v1))]) dX10_status_25 kM_X6_letter kL_X10_178 kI_X6_letter kS_X6_letter rfl (kC_X6.1) slb4.c0 rfl rfl (Nat.le_of_ble_eq_true rfl) (by omega) (by decide) (by omega) (by omega) (e_lb_letter (d := d - 1) slb4 v1 (by omega)) (q_kR ?_) q_xR
    change q_W _ _ _ _ _ _ _ _ 28 [.ref (100), .int (xid), .int (nI (v1))] [.int (x_lb_letter y3_ac y3_rj v1)] _
    have hE : x_am_status n id att ac rj ro xid = (.inl (x_lb_letter y3_ac y3_rj v1), y3_ac, y3_rj, y3_ro) := by simp only [x_am_status, x1, x3]
    rw [hE]
    exact q_ireturn dX10_status_28 rfl (z_letter_nar _ _ _) (by omega) (by omega) ⟨rfl, sam4, sst4, slb4, p4⟩
  · have e9 := e_st_slotOfKnown (g := g) (h := h) (d := d - 1) sst xid (by omega)
    rw [x1] at e9
    refine q_invV (mc' := 1) (ms' := 6) (d' := d - 1) (as := [.int (xid)]) dX10_status_5 kM_X8_slotOfKnown kL_X10_138 kI_X8_slotOfKnown kS_X8_slotOfKnown rfl (kC_X8.1) sst.c0 rfl rfl (Nat.le_of_ble_eq_true rfl) (by omega) (by decide) (by omega) (by omega) (e9) q_kT (q_xT ?_)
    have hE : x_am_status n id att ac rj ro xid = (.inr e1, ac, rj, ro) := by simp only [x_am_status, x1]
    rw [hE]
    exact q_xout rfl ⟨rfl, sam.keep (q_same.skip (a := 0) (k := 0)) (Or.inr (Nat.zero_le _)), sst.keep (q_same.skip (a := 0) (k := 0)) (Or.inr (Nat.zero_le _)), slb.keep (q_same.skip (a := 0) (k := 0)) (Or.inr (Nat.zero_le _)), p0.trans q_same.skip⟩ (by omega) (by omega)
def x_am_roundOf (n : Nat) (id : Nat → Int32) (att : Nat → Int32) (ac : Int32) (rj : Int32) (ro : Nat → Int32) (xid : Int32) : (Int32 ⊕ String) × (Int32) × (Int32) × (Nat → Int32) := (match x_st_slotOfKnown n id xid with | (.inl v1) => (match x_lb_give ro n att with | (y3_ac, y3_rj, y3_ro) => (if (x_lb_letter y3_ac y3_rj v1) = (117) then (.inr "java/util/NoSuchElementException", y3_ac, y3_rj, y3_ro) else (.inl (y3_ro v1), y3_ac, y3_rj, y3_ro))) | (.inr e1) => (.inr e1, ac, rj, ro))
set_option maxRecDepth 100000 in
set_option maxHeartbeats 8000000 in
theorem e_am_roundOf {g : q_G} {h : q_H} {d : Nat} {hs : Bool} {se : Int32} {sf : Int32} (sam : z_Am h 100 hs se sf) {n : Nat} {id : Nat → Int32} {wt : Nat → Int32} {ag : Nat → Int32} {tg : Nat → Int32} {att : Nat → Int32} {ni : Int32} {dy : Int32} {mn : Nat} {mv : Nat → Int32} {en : Int32} {wo : Int32} {br : Int32} (sst : z_S2 h 101 n id wt ag tg att ni dy mn mv en wo br) {ac : Int32} {rj : Int32} {ro : Nat → Int32} (slb : z_Lb h 199 ac rj ro)  (xid : Int32)   (hd : 8 ≤ d) : q_Spec g mX10_roundOf d 2 12 [.ref (100), .int (xid)] h (q_chg (q_oI (x_am_roundOf n id att ac rj ro xid).1) (fun h1 => z_Am h1 100 hs se sf ∧ z_S2 h1 101 n id wt ag tg att ni dy mn mv en wo br ∧ z_Lb h1 199 ((x_am_roundOf n id att ac rj ro xid).2.1) ((x_am_roundOf n id att ac rj ro xid).2.2.1) ((x_am_roundOf n id att ac rj ro xid).2.2.2) ∧ q_same h h1 199 2)) := by
  have hb_st_n := sst.bn
  have hb_st_mn := sst.bmn
  have ho_st_n := sst.bn
  have ho_st_mn := sst.bmn
  have p0 : q_same h h 199 2 := q_same.rfl'
  refine q_enter (by decide +kernel) rfl rfl (Nat.le_of_ble_eq_true rfl) (fun hz => ?_)
  change q_W _ _ _ _ _ _ _ _ _ [.ref (100), .int (xid), q_u] [] _
  refine q_aload_n (by first | assumption | omega | decide | (rw [q_R0e]; omega)) dX10_roundOf_0 rfl ?_
  refine q_getf (k := 0) (v := .ref (101)) kC_X10 kL_X10_12 rfl (by decide) dX10_roundOf_1 sam.c0 rfl ?_
  refine q_iload_n dX10_roundOf_4 rfl ?_
  rcases x1 : x_st_slotOfKnown n id xid with v1 | e1
  · have e9 := e_st_slotOfKnown (g := g) (h := h) (d := d - 1) sst xid (by omega)
    rw [x1] at e9
    refine q_invV (mc' := 1) (ms' := 6) (d' := d - 1) (as := [.int (xid)]) dX10_roundOf_5 kM_X8_slotOfKnown kL_X10_138 kI_X8_slotOfKnown kS_X8_slotOfKnown rfl (kC_X8.1) sst.c0 rfl rfl (Nat.le_of_ble_eq_true rfl) (by omega) (by decide) (by omega) (by omega) (e9) (q_kR ?_) q_xR
    have f1 := z_slot_lt x1
    change q_W _ _ _ _ _ _ _ _ 8 [.ref (100), .int (xid), q_u] [.int (nI (v1))] _
    refine q_istore_n dX10_roundOf_8 (by decide) rfl ?_
    change q_W _ _ _ _ _ _ _ _ _ [.ref (100), .int (xid), .int (nI (v1))] [] _
    refine q_aload_n (by first | assumption | omega | decide | (rw [q_R0e]; omega)) dX10_roundOf_9 rfl ?_
    refine q_getf (k := 4) (v := .ref (199)) kC_X10 kL_X10_32 rfl (by decide) dX10_roundOf_10 sam.c0 rfl ?_
    refine q_aload_n (by first | assumption | omega | decide | (rw [q_R0e]; omega)) dX10_roundOf_13 rfl ?_
    refine q_getf (k := 0) (v := .ref (101)) kC_X10 kL_X10_12 rfl (by decide) dX10_roundOf_14 sam.c0 rfl ?_
    rcases x3 : x_lb_give ro n att with ⟨y3_ac, y3_rj, y3_ro⟩
    have e9 := e_lb_give (g := g) (h := h) (d := d - 1) slb sst (by omega) (by omega)
    rw [x3] at e9
    refine q_invV (mc' := 0) (ms' := 0) (d' := d - 1) (as := [.ref (101)]) dX10_roundOf_17 kM_X6_give kL_X10_174 kI_X6_give kS_X6_give rfl (kC_X6.1) slb.c0 rfl rfl (Nat.le_of_ble_eq_true rfl) (by omega) (by decide) (by omega) (by omega) (e9) (q_kC (fun h4 hB => ?_)) q_xC
    obtain ⟨t4_0, t4_1, pp4⟩ := hB
    have slb4 := t4_0
    have sst4 := t4_1
    have sam4 := sam.keep pp4 (by omega)
    have p4 := p0.trans (pp4.wide (by omega) (by omega))
    change q_W _ _ _ _ _ _ _ _ 20 [.ref (100), .int (xid), .int (nI (v1))] [] _
    refine q_aload_n (by first | assumption | omega | decide | (rw [q_R0e]; omega)) dX10_roundOf_20 rfl ?_
    refine q_getf (k := 4) (v := .ref (199)) kC_X10 kL_X10_32 rfl (by decide) dX10_roundOf_21 sam4.c0 rfl ?_
    refine q_iload_n dX10_roundOf_24 rfl ?_
    refine q_invV (mc' := 0) (ms' := 0) (d' := d - 1) (as := [.int (nI (v1))]) dX10_roundOf_25 kM_X6_letter kL_X10_178 kI_X6_letter kS_X6_letter rfl (kC_X6.1) slb4.c0 rfl rfl (Nat.le_of_ble_eq_true rfl) (by omega) (by decide) (by omega) (by omega) (e_lb_letter (d := d - 1) slb4 v1 (by omega)) (q_kR ?_) q_xR
    change q_W _ _ _ _ _ _ _ _ 28 [.ref (100), .int (xid), .int (nI (v1))] [.int (x_lb_letter y3_ac y3_rj v1)] _
    refine q_bipush (v := 117) dX10_roundOf_28 rfl ?_
    refine q_icmp_ne 43 dX10_roundOf_30 (by decide) (fun b30 => ?_) (fun b30 => ?_)
    · refine q_aload_n (by first | assumption | omega | decide | (rw [q_R0e]; omega)) dX10_roundOf_43 rfl ?_
      refine q_getf (k := 4) (v := .ref (199)) kC_X10 kL_X10_32 rfl (by decide) dX10_roundOf_44 sam4.c0 rfl ?_
      refine q_getf (k := 0) (v := .ref (200)) kC_X6 kL_X10_184 rfl (by decide) dX10_roundOf_47 slb4.c0 rfl ?_
      refine q_iload_n dX10_roundOf_50 rfl ?_
      refine q_ialdN (j := v1) (f := y3_ro) dX10_roundOf_51 slb4.c1 (by omega) (by decide) ?_
      change q_W _ _ _ _ _ _ _ _ _ _ [.int (y3_ro v1)] _
      have hE : x_am_roundOf n id att ac rj ro xid = (.inl (y3_ro v1), y3_ac, y3_rj, y3_ro) := by simp only [x_am_roundOf, x1, x3, if_neg b30]
      rw [hE]
      exact q_ireturn dX10_roundOf_52 rfl rfl (by omega) (by omega) ⟨rfl, sam4, sst4, slb4, p4⟩
    · have hE : x_am_roundOf n id att ac rj ro xid = (.inr "java/util/NoSuchElementException", y3_ac, y3_rj, y3_ro) := by simp only [x_am_roundOf, x1, x3, if_pos b30]
      rw [hE]
      refine q_throw kE_X10_163 kR_X10_182 rfl dX10_roundOf_33 dX10_roundOf_36 dX10_roundOf_37 dX10_roundOf_39 dX10_roundOf_42 (Nat.le_of_ble_eq_true rfl) (by omega) (by omega) (by omega) ?_
      exact q_xout rfl ⟨rfl, sam4.keep (q_same.skip (a := 0) (k := 0)) (Or.inr (Nat.zero_le _)), sst4.keep (q_same.skip (a := 0) (k := 0)) (Or.inr (Nat.zero_le _)), slb4.keep (q_same.skip (a := 0) (k := 0)) (Or.inr (Nat.zero_le _)), p4.trans q_same.skip⟩ (by omega) (by omega)
  · have e9 := e_st_slotOfKnown (g := g) (h := h) (d := d - 1) sst xid (by omega)
    rw [x1] at e9
    refine q_invV (mc' := 1) (ms' := 6) (d' := d - 1) (as := [.int (xid)]) dX10_roundOf_5 kM_X8_slotOfKnown kL_X10_138 kI_X8_slotOfKnown kS_X8_slotOfKnown rfl (kC_X8.1) sst.c0 rfl rfl (Nat.le_of_ble_eq_true rfl) (by omega) (by decide) (by omega) (by omega) (e9) q_kT (q_xT ?_)
    have hE : x_am_roundOf n id att ac rj ro xid = (.inr e1, ac, rj, ro) := by simp only [x_am_roundOf, x1]
    rw [hE]
    exact q_xout rfl ⟨rfl, sam.keep (q_same.skip (a := 0) (k := 0)) (Or.inr (Nat.zero_le _)), sst.keep (q_same.skip (a := 0) (k := 0)) (Or.inr (Nat.zero_le _)), slb.keep (q_same.skip (a := 0) (k := 0)) (Or.inr (Nat.zero_le _)), p0.trans q_same.skip⟩ (by omega) (by omega)
def x_am_acceptedCount (n : Nat) (att : Nat → Int32) (ro : Nat → Int32) : (Int32) × (Int32) × (Int32) × (Nat → Int32) := (match x_lb_give ro n att with | (y1_ac, y1_rj, y1_ro) => (z_bc y1_ac, y1_ac, y1_rj, y1_ro))
set_option maxRecDepth 100000 in
set_option maxHeartbeats 8000000 in
theorem e_am_acceptedCount {g : q_G} {h : q_H} {d : Nat} {hs : Bool} {se : Int32} {sf : Int32} (sam : z_Am h 100 hs se sf) {n : Nat} {id : Nat → Int32} {wt : Nat → Int32} {ag : Nat → Int32} {tg : Nat → Int32} {att : Nat → Int32} {ni : Int32} {dy : Int32} {mn : Nat} {mv : Nat → Int32} {en : Int32} {wo : Int32} {br : Int32} (sst : z_S2 h 101 n id wt ag tg att ni dy mn mv en wo br) {ac : Int32} {rj : Int32} {ro : Nat → Int32} (slb : z_Lb h 199 ac rj ro)     (hd : 4 ≤ d) : q_Spec g mX10_acceptedCount d 0 0 [.ref (100)] h (q_chg (.inl (some (.int (x_am_acceptedCount n att ro).1))) (fun h1 => z_Am h1 100 hs se sf ∧ z_S2 h1 101 n id wt ag tg att ni dy mn mv en wo br ∧ z_Lb h1 199 ((x_am_acceptedCount n att ro).2.1) ((x_am_acceptedCount n att ro).2.2.1) ((x_am_acceptedCount n att ro).2.2.2) ∧ q_same h h1 199 2)) := by
  have hb_st_n := sst.bn
  have hb_st_mn := sst.bmn
  have ho_st_n := sst.bn
  have ho_st_mn := sst.bmn
  have p0 : q_same h h 199 2 := q_same.rfl'
  refine q_enter (by decide +kernel) rfl rfl (Nat.le_of_ble_eq_true rfl) (fun hz => ?_)
  change q_W _ _ _ _ _ _ _ _ _ [.ref (100)] [] _
  refine q_aload_n (by first | assumption | omega | decide | (rw [q_R0e]; omega)) dX10_acceptedCount_0 rfl ?_
  refine q_getf (k := 4) (v := .ref (199)) kC_X10 kL_X10_32 rfl (by decide) dX10_acceptedCount_1 sam.c0 rfl ?_
  refine q_aload_n (by first | assumption | omega | decide | (rw [q_R0e]; omega)) dX10_acceptedCount_4 rfl ?_
  refine q_getf (k := 0) (v := .ref (101)) kC_X10 kL_X10_12 rfl (by decide) dX10_acceptedCount_5 sam.c0 rfl ?_
  rcases x1 : x_lb_give ro n att with ⟨y1_ac, y1_rj, y1_ro⟩
  have e9 := e_lb_give (g := g) (h := h) (d := d - 1) slb sst (by omega) (by omega)
  rw [x1] at e9
  refine q_invV (mc' := 0) (ms' := 0) (d' := d - 1) (as := [.ref (101)]) dX10_acceptedCount_8 kM_X6_give kL_X10_174 kI_X6_give kS_X6_give rfl (kC_X6.1) slb.c0 rfl rfl (Nat.le_of_ble_eq_true rfl) (by omega) (by decide) (by omega) (by omega) (e9) (q_kC (fun h2 hB => ?_)) q_xC
  obtain ⟨t2_0, t2_1, pp2⟩ := hB
  have slb2 := t2_0
  have sst2 := t2_1
  have sam2 := sam.keep pp2 (by omega)
  have p2 := p0.trans (pp2.wide (by omega) (by omega))
  change q_W _ _ _ _ _ _ _ _ 11 [.ref (100)] [] _
  refine q_aload_n (by first | assumption | omega | decide | (rw [q_R0e]; omega)) dX10_acceptedCount_11 rfl ?_
  refine q_getf (k := 4) (v := .ref (199)) kC_X10 kL_X10_32 rfl (by decide) dX10_acceptedCount_12 sam2.c0 rfl ?_
  refine q_getf (k := 1) (v := .int (y1_ac)) kC_X6 kL_X10_195 rfl (by decide) dX10_acceptedCount_15 slb2.c0 rfl ?_
  refine q_invS (mc' := 0) (ms' := 0) (d' := d - 1) (as := [.int (y1_ac)]) dX10_acceptedCount_18 kM_J6_bitCount_0f7a4 kL_X10_167 kT_J6_bitCount_0f7a4 rfl rfl rfl (Nat.le_of_ble_eq_true rfl) (by omega) (by decide) (by omega) (by omega) (e_bitCount (d := d - 1)) (q_kR ?_) q_xR
  change q_W _ _ _ _ _ _ _ _ 21 [.ref (100)] [.int (z_bc y1_ac)] _
  have hE : x_am_acceptedCount n att ro = (z_bc y1_ac, y1_ac, y1_rj, y1_ro) := by simp only [x_am_acceptedCount, x1]
  rw [hE]
  exact q_ireturn dX10_acceptedCount_21 rfl rfl (by omega) (by omega) ⟨rfl, sam2, sst2, slb2, p2⟩
def x_am_undecidedCount (n : Nat) (att : Nat → Int32) (ro : Nat → Int32) : (Int32) × (Int32) × (Int32) × (Nat → Int32) := (match x_lb_give ro n att with | (y1_ac, y1_rj, y1_ro) => ((nI (n)) - (z_bc (y1_ac ||| y1_rj)), y1_ac, y1_rj, y1_ro))
set_option maxRecDepth 100000 in
set_option maxHeartbeats 8000000 in
theorem e_am_undecidedCount {g : q_G} {h : q_H} {d : Nat} {hs : Bool} {se : Int32} {sf : Int32} (sam : z_Am h 100 hs se sf) {n : Nat} {id : Nat → Int32} {wt : Nat → Int32} {ag : Nat → Int32} {tg : Nat → Int32} {att : Nat → Int32} {ni : Int32} {dy : Int32} {mn : Nat} {mv : Nat → Int32} {en : Int32} {wo : Int32} {br : Int32} (sst : z_S2 h 101 n id wt ag tg att ni dy mn mv en wo br) {ac : Int32} {rj : Int32} {ro : Nat → Int32} (slb : z_Lb h 199 ac rj ro)     (hd : 4 ≤ d) : q_Spec g mX10_undecidedCount d 0 0 [.ref (100)] h (q_chg (.inl (some (.int (x_am_undecidedCount n att ro).1))) (fun h1 => z_Am h1 100 hs se sf ∧ z_S2 h1 101 n id wt ag tg att ni dy mn mv en wo br ∧ z_Lb h1 199 ((x_am_undecidedCount n att ro).2.1) ((x_am_undecidedCount n att ro).2.2.1) ((x_am_undecidedCount n att ro).2.2.2) ∧ q_same h h1 199 2)) := by
  have hb_st_n := sst.bn
  have hb_st_mn := sst.bmn
  have ho_st_n := sst.bn
  have ho_st_mn := sst.bmn
  have p0 : q_same h h 199 2 := q_same.rfl'
  refine q_enter (by decide +kernel) rfl rfl (Nat.le_of_ble_eq_true rfl) (fun hz => ?_)
  change q_W _ _ _ _ _ _ _ _ _ [.ref (100)] [] _
  refine q_aload_n (by first | assumption | omega | decide | (rw [q_R0e]; omega)) dX10_undecidedCount_0 rfl ?_
  refine q_getf (k := 4) (v := .ref (199)) kC_X10 kL_X10_32 rfl (by decide) dX10_undecidedCount_1 sam.c0 rfl ?_
  refine q_aload_n (by first | assumption | omega | decide | (rw [q_R0e]; omega)) dX10_undecidedCount_4 rfl ?_
  refine q_getf (k := 0) (v := .ref (101)) kC_X10 kL_X10_12 rfl (by decide) dX10_undecidedCount_5 sam.c0 rfl ?_
  rcases x1 : x_lb_give ro n att with ⟨y1_ac, y1_rj, y1_ro⟩
  have e9 := e_lb_give (g := g) (h := h) (d := d - 1) slb sst (by omega) (by omega)
  rw [x1] at e9
  refine q_invV (mc' := 0) (ms' := 0) (d' := d - 1) (as := [.ref (101)]) dX10_undecidedCount_8 kM_X6_give kL_X10_174 kI_X6_give kS_X6_give rfl (kC_X6.1) slb.c0 rfl rfl (Nat.le_of_ble_eq_true rfl) (by omega) (by decide) (by omega) (by omega) (e9) (q_kC (fun h2 hB => ?_)) q_xC
  obtain ⟨t2_0, t2_1, pp2⟩ := hB
  have slb2 := t2_0
  have sst2 := t2_1
  have sam2 := sam.keep pp2 (by omega)
  have p2 := p0.trans (pp2.wide (by omega) (by omega))
  change q_W _ _ _ _ _ _ _ _ 11 [.ref (100)] [] _
  refine q_aload_n (by first | assumption | omega | decide | (rw [q_R0e]; omega)) dX10_undecidedCount_11 rfl ?_
  refine q_getf (k := 0) (v := .ref (101)) kC_X10 kL_X10_12 rfl (by decide) dX10_undecidedCount_12 sam2.c0 rfl ?_
  refine q_getf (k := 6) (v := .int (nI (n))) kC_X8 kL_X10_121 rfl (by decide) dX10_undecidedCount_15 sst2.c0 rfl ?_
  refine q_aload_n (by first | assumption | omega | decide | (rw [q_R0e]; omega)) dX10_undecidedCount_18 rfl ?_
  refine q_getf (k := 4) (v := .ref (199)) kC_X10 kL_X10_32 rfl (by decide) dX10_undecidedCount_19 sam2.c0 rfl ?_
  refine q_getf (k := 1) (v := .int (y1_ac)) kC_X6 kL_X10_195 rfl (by decide) dX10_undecidedCount_22 slb2.c0 rfl ?_
  refine q_aload_n (by first | assumption | omega | decide | (rw [q_R0e]; omega)) dX10_undecidedCount_25 rfl ?_
  refine q_getf (k := 4) (v := .ref (199)) kC_X10 kL_X10_32 rfl (by decide) dX10_undecidedCount_26 sam2.c0 rfl ?_
  refine q_getf (k := 2) (v := .int (y1_rj)) kC_X6 kL_X10_198 rfl (by decide) dX10_undecidedCount_29 slb2.c0 rfl ?_
  refine q_ior dX10_undecidedCount_32 ?_
  refine q_invS (mc' := 0) (ms' := 0) (d' := d - 1) (as := [.int (y1_ac ||| y1_rj)]) dX10_undecidedCount_33 kM_J6_bitCount_0f7a4 kL_X10_167 kT_J6_bitCount_0f7a4 rfl rfl rfl (Nat.le_of_ble_eq_true rfl) (by omega) (by decide) (by omega) (by omega) (e_bitCount (d := d - 1)) (q_kR ?_) q_xR
  change q_W _ _ _ _ _ _ _ _ 36 [.ref (100)] [.int (z_bc (y1_ac ||| y1_rj)), .int (nI (n))] _
  refine q_isub dX10_undecidedCount_36 ?_
  have hE : x_am_undecidedCount n att ro = ((nI (n)) - (z_bc (y1_ac ||| y1_rj)), y1_ac, y1_rj, y1_ro) := by simp only [x_am_undecidedCount, x1]
  rw [hE]
  exact q_ireturn dX10_undecidedCount_37 rfl rfl (by omega) (by omega) ⟨rfl, sam2, sst2, slb2, p2⟩
def x_am_isAcceptedByGame (n : Nat) (id : Nat → Int32) (att : Nat → Int32) (won : Nat → Int32) (lost : Nat → Int32) (xid : Int32) : (Bool ⊕ String) × (Nat → Int32) × (Nat → Int32) := (match x_st_slotOfKnown n id xid with | (.inl v1) => (match x_ga_isWonByProponent won lost att v1 with | (v3, y3_won, y3_lost) => (.inl v3, y3_won, y3_lost)) | (.inr e1) => (.inr e1, won, lost))
set_option maxRecDepth 100000 in
set_option maxHeartbeats 8000000 in
theorem e_am_isAcceptedByGame {g : q_G} {h : q_H} {d : Nat} {hs : Bool} {se : Int32} {sf : Int32} (sam : z_Am h 100 hs se sf) {n : Nat} {id : Nat → Int32} {wt : Nat → Int32} {ag : Nat → Int32} {tg : Nat → Int32} {att : Nat → Int32} {ni : Int32} {dy : Int32} {mn : Nat} {mv : Nat → Int32} {en : Int32} {wo : Int32} {br : Int32} (sst : z_S2 h 101 n id wt ag tg att ni dy mn mv en wo br) {won : Nat → Int32} {lost : Nat → Int32} (sga : z_Ga h 201 won lost)  (xid : Int32)   (hd : 20 ≤ d) : q_Spec g mX10_isAcceptedByGame d 1 6 [.ref (100), .int (xid)] h (q_chg (q_oB (x_am_isAcceptedByGame n id att won lost xid).1) (fun h1 => z_Am h1 100 hs se sf ∧ z_S2 h1 101 n id wt ag tg att ni dy mn mv en wo br ∧ z_Ga h1 201 ((x_am_isAcceptedByGame n id att won lost xid).2.1) ((x_am_isAcceptedByGame n id att won lost xid).2.2) ∧ q_same h h1 201 3)) := by
  have hb_st_n := sst.bn
  have hb_st_mn := sst.bmn
  have ho_st_n := sst.bn
  have ho_st_mn := sst.bmn
  have p0 : q_same h h 201 3 := q_same.rfl'
  refine q_enter (by decide +kernel) rfl rfl (Nat.le_of_ble_eq_true rfl) (fun hz => ?_)
  change q_W _ _ _ _ _ _ _ _ _ [.ref (100), .int (xid)] [] _
  refine q_aload_n (by first | assumption | omega | decide | (rw [q_R0e]; omega)) dX10_isAcceptedByGame_0 rfl ?_
  refine q_getf (k := 5) (v := .ref (201)) kC_X10 kL_X10_39 rfl (by decide) dX10_isAcceptedByGame_1 sam.c0 rfl ?_
  refine q_aload_n (by first | assumption | omega | decide | (rw [q_R0e]; omega)) dX10_isAcceptedByGame_4 rfl ?_
  refine q_getf (k := 0) (v := .ref (101)) kC_X10 kL_X10_12 rfl (by decide) dX10_isAcceptedByGame_5 sam.c0 rfl ?_
  refine q_aload_n (by first | assumption | omega | decide | (rw [q_R0e]; omega)) dX10_isAcceptedByGame_8 rfl ?_
  refine q_getf (k := 0) (v := .ref (101)) kC_X10 kL_X10_12 rfl (by decide) dX10_isAcceptedByGame_9 sam.c0 rfl ?_
  refine q_iload_n dX10_isAcceptedByGame_12 rfl ?_
  rcases x1 : x_st_slotOfKnown n id xid with v1 | e1
  · have e9 := e_st_slotOfKnown (g := g) (h := h) (d := d - 1) sst xid (by omega)
    rw [x1] at e9
    refine q_invV (mc' := 1) (ms' := 6) (d' := d - 1) (as := [.int (xid)]) dX10_isAcceptedByGame_13 kM_X8_slotOfKnown kL_X10_138 kI_X8_slotOfKnown kS_X8_slotOfKnown rfl (kC_X8.1) sst.c0 rfl rfl (Nat.le_of_ble_eq_true rfl) (by omega) (by decide) (by omega) (by omega) (e9) (q_kR ?_) q_xR
    have f1 := z_slot_lt x1
    change q_W _ _ _ _ _ _ _ _ 16 [.ref (100), .int (xid)] [.int (nI (v1)), .ref (101), .ref (201)] _
    rcases x3 : x_ga_isWonByProponent won lost att v1 with ⟨v3, y3_won, y3_lost⟩
    have e9 := e_ga_isWonByProponent (g := g) (h := h) (d := d - 1) sga sst v1 (by omega) (by omega) (by omega)
    rw [x3] at e9
    refine q_invV (mc' := 0) (ms' := 0) (d' := d - 1) (as := [.ref (101), .int (nI (v1))]) dX10_isAcceptedByGame_16 kM_X4_isWonByProponent kL_X10_187 kI_X4_isWonByProponent kS_X4_isWonByProponent rfl (kC_X4.1) sga.c0 rfl rfl (Nat.le_of_ble_eq_true rfl) (by omega) (by decide) (by omega) (by omega) (e9) (q_kC (fun h4 hB => ?_)) q_xC
    obtain ⟨t4_0, t4_1, pp4⟩ := hB
    have sga4 := t4_0
    have sst4 := t4_1
    have sam4 := sam.keep pp4 (by omega)
    have p4 := p0.trans (pp4.wide (by omega) (by omega))
    change q_W _ _ _ _ _ _ _ _ 19 [.ref (100), .int (xid)] [.int (z_b (v3))] _
    have hE : x_am_isAcceptedByGame n id att won lost xid = (.inl v3, y3_won, y3_lost) := by simp only [x_am_isAcceptedByGame, x1, x3]
    rw [hE]
    exact q_ireturn dX10_isAcceptedByGame_19 rfl (z_b_nar _) (by omega) (by omega) ⟨rfl, sam4, sst4, sga4, p4⟩
  · have e9 := e_st_slotOfKnown (g := g) (h := h) (d := d - 1) sst xid (by omega)
    rw [x1] at e9
    refine q_invV (mc' := 1) (ms' := 6) (d' := d - 1) (as := [.int (xid)]) dX10_isAcceptedByGame_13 kM_X8_slotOfKnown kL_X10_138 kI_X8_slotOfKnown kS_X8_slotOfKnown rfl (kC_X8.1) sst.c0 rfl rfl (Nat.le_of_ble_eq_true rfl) (by omega) (by decide) (by omega) (by omega) (e9) q_kT (q_xT ?_)
    have hE : x_am_isAcceptedByGame n id att won lost xid = (.inr e1, won, lost) := by simp only [x_am_isAcceptedByGame, x1]
    rw [hE]
    exact q_xout rfl ⟨rfl, sam.keep (q_same.skip (a := 0) (k := 0)) (Or.inr (Nat.zero_le _)), sst.keep (q_same.skip (a := 0) (k := 0)) (Or.inr (Nat.zero_le _)), sga.keep (q_same.skip (a := 0) (k := 0)) (Or.inr (Nat.zero_le _)), p0.trans q_same.skip⟩ (by omega) (by omega)
def x_am_canOpponentWin (n : Nat) (id : Nat → Int32) (att : Nat → Int32) (won : Nat → Int32) (lost : Nat → Int32) (xid : Int32) : (Bool ⊕ String) × (Nat → Int32) × (Nat → Int32) := (match x_am_isAcceptedByGame n id att won lost xid with | ((.inl v1), y1_won, y1_lost) => (if v1 then (.inl false, y1_won, y1_lost) else (.inl true, y1_won, y1_lost)) | ((.inr e1), y1_won, y1_lost) => (.inr e1, y1_won, y1_lost))
set_option maxRecDepth 100000 in
set_option maxHeartbeats 8000000 in
theorem e_am_canOpponentWin {g : q_G} {h : q_H} {d : Nat} {hs : Bool} {se : Int32} {sf : Int32} (sam : z_Am h 100 hs se sf) {n : Nat} {id : Nat → Int32} {wt : Nat → Int32} {ag : Nat → Int32} {tg : Nat → Int32} {att : Nat → Int32} {ni : Int32} {dy : Int32} {mn : Nat} {mv : Nat → Int32} {en : Int32} {wo : Int32} {br : Int32} (sst : z_S2 h 101 n id wt ag tg att ni dy mn mv en wo br) {won : Nat → Int32} {lost : Nat → Int32} (sga : z_Ga h 201 won lost)  (xid : Int32)   (hd : 21 ≤ d) : q_Spec g mX10_canOpponentWin d 1 6 [.ref (100), .int (xid)] h (q_chg (q_oB (x_am_canOpponentWin n id att won lost xid).1) (fun h1 => z_Am h1 100 hs se sf ∧ z_S2 h1 101 n id wt ag tg att ni dy mn mv en wo br ∧ z_Ga h1 201 ((x_am_canOpponentWin n id att won lost xid).2.1) ((x_am_canOpponentWin n id att won lost xid).2.2) ∧ q_same h h1 201 3)) := by
  have hb_st_n := sst.bn
  have hb_st_mn := sst.bmn
  have ho_st_n := sst.bn
  have ho_st_mn := sst.bmn
  have p0 : q_same h h 201 3 := q_same.rfl'
  refine q_enter (by decide +kernel) rfl rfl (Nat.le_of_ble_eq_true rfl) (fun hz => ?_)
  change q_W _ _ _ _ _ _ _ _ _ [.ref (100), .int (xid)] [] _
  refine q_aload_n (by first | assumption | omega | decide | (rw [q_R0e]; omega)) dX10_canOpponentWin_0 rfl ?_
  refine q_iload_n dX10_canOpponentWin_1 rfl ?_
  rcases x1 : x_am_isAcceptedByGame n id att won lost xid with ⟨v1 | e1, y1_won, y1_lost⟩
  · have e9 := e_am_isAcceptedByGame (g := g) (h := h) (d := d - 1) sam sst sga xid (by omega)
    rw [x1] at e9
    refine q_invV (mc' := 1) (ms' := 6) (d' := d - 1) (as := [.int (xid)]) dX10_canOpponentWin_2 kM_X10_isAcceptedByGame kL_X10_191 kI_X10_isAcceptedByGame kS_X10_isAcceptedByGame rfl (kC_X10.1) sam.c0 rfl rfl (Nat.le_of_ble_eq_true rfl) (by omega) (by decide) (by omega) (by omega) (e9) (q_kC (fun h2 hB => ?_)) q_xC
    obtain ⟨t2_0, t2_1, t2_2, pp2⟩ := hB
    have sam2 := t2_0
    have sst2 := t2_1
    have sga2 := t2_2
    have p2 := p0.trans (pp2.wide (by omega) (by omega))
    change q_W _ _ _ _ _ _ _ _ 5 [.ref (100), .int (xid)] [.int (z_b (v1))] _
    refine q_if_ne 12 dX10_canOpponentWin_5 (by decide) (fun b5 => ?_) (fun b5 => ?_)
    · have b5 := z_b1 b5
      refine q_iconst (v := 0) dX10_canOpponentWin_12 rfl ?_
      have hE : x_am_canOpponentWin n id att won lost xid = (.inl false, y1_won, y1_lost) := by simp only [x_am_canOpponentWin, x1, if_pos b5]
      rw [hE]
      exact q_ireturn dX10_canOpponentWin_13 rfl rfl (by omega) (by omega) ⟨rfl, sam2, sst2, sga2, p2⟩
    · have b5 := z_b0n b5
      refine q_iconst (v := 1) dX10_canOpponentWin_8 rfl ?_
      refine q_goto 13 dX10_canOpponentWin_9 (by decide) ?_
      have hE : x_am_canOpponentWin n id att won lost xid = (.inl true, y1_won, y1_lost) := by simp only [x_am_canOpponentWin, x1, if_neg b5]
      rw [hE]
      exact q_ireturn dX10_canOpponentWin_13 rfl rfl (by omega) (by omega) ⟨rfl, sam2, sst2, sga2, p2⟩
  · have e9 := e_am_isAcceptedByGame (g := g) (h := h) (d := d - 1) sam sst sga xid (by omega)
    rw [x1] at e9
    refine q_invV (mc' := 1) (ms' := 6) (d' := d - 1) (as := [.int (xid)]) dX10_canOpponentWin_2 kM_X10_isAcceptedByGame kL_X10_191 kI_X10_isAcceptedByGame kS_X10_isAcceptedByGame rfl (kC_X10.1) sam.c0 rfl rfl (Nat.le_of_ble_eq_true rfl) (by omega) (by decide) (by omega) (by omega) (e9) q_kCx (q_xCx (fun h3 hB => ?_))
    obtain ⟨t3_0, t3_1, t3_2, pp3⟩ := hB
    have sam3 := t3_0
    have sst3 := t3_1
    have sga3 := t3_2
    have p3 := p0.trans (pp3.wide (by omega) (by omega))
    have hE : x_am_canOpponentWin n id att won lost xid = (.inr e1, y1_won, y1_lost) := by simp only [x_am_canOpponentWin, x1]
    rw [hE]
    exact q_xout rfl ⟨rfl, sam3, sst3, sga3, p3⟩ (by omega) (by omega)
def x_am_stableCount (n : Nat) (att : Nat → Int32) : Int32 := x_ex_countStable n att
set_option maxRecDepth 100000 in
set_option maxHeartbeats 8000000 in
theorem e_am_stableCount {g : q_G} {h : q_H} {d : Nat} {hs : Bool} {se : Int32} {sf : Int32} (sam : z_Am h 100 hs se sf) {n : Nat} {id : Nat → Int32} {wt : Nat → Int32} {ag : Nat → Int32} {tg : Nat → Int32} {att : Nat → Int32} {ni : Int32} {dy : Int32} {mn : Nat} {mv : Nat → Int32} {en : Int32} {wo : Int32} {br : Int32} (sst : z_S2 h 101 n id wt ag tg att ni dy mn mv en wo br) {pf : Nat → Int32} {cv : Nat → Int32} {sc : Nat} (sex : z_Ex h 204 pf cv sc)     (hd : 4 ≤ d) : q_Spec g mX10_stableCount d 0 0 [.ref (100)] h (q_ret ((some (.int (x_am_stableCount n att)))) h) := by
  have hb_st_n := sst.bn
  have hb_st_mn := sst.bmn
  have hb_ex_sc := sex.bsc
  have ho_st_n := sst.bn
  have ho_st_mn := sst.bmn
  have ho_ex_sc := sex.bsc
  refine q_enter (by decide +kernel) rfl rfl (Nat.le_of_ble_eq_true rfl) (fun hz => ?_)
  change q_W _ _ _ _ _ _ _ _ _ [.ref (100)] [] _
  refine q_aload_n (by first | assumption | omega | decide | (rw [q_R0e]; omega)) dX10_stableCount_0 rfl ?_
  refine q_getf (k := 6) (v := .ref (204)) kC_X10 kL_X10_46 rfl (by decide) dX10_stableCount_1 sam.c0 rfl ?_
  refine q_aload_n (by first | assumption | omega | decide | (rw [q_R0e]; omega)) dX10_stableCount_4 rfl ?_
  refine q_getf (k := 0) (v := .ref (101)) kC_X10 kL_X10_12 rfl (by decide) dX10_stableCount_5 sam.c0 rfl ?_
  refine q_invV (mc' := 0) (ms' := 0) (d' := d - 1) (as := [.ref (101)]) dX10_stableCount_8 kM_X3_countStable kL_X10_201 kI_X3_countStable kS_X3_countStable rfl (kC_X3.1) sex.c0 rfl rfl (Nat.le_of_ble_eq_true rfl) (by omega) (by decide) (by omega) (by omega) (e_ex_countStable (d := d - 1) sex sst (by omega)) (q_kR ?_) q_xR
  change q_W _ _ _ _ _ _ _ _ 11 [.ref (100)] [.int (x_ex_countStable n att)] _
  have hE : x_am_stableCount n att = x_ex_countStable n att := by simp only [x_am_stableCount]
  rw [hE]
  exact q_ireturn dX10_stableCount_11 rfl rfl (by omega) (by omega) ⟨rfl, rfl⟩
def x_am_stableCountByLabels (n : Nat) (att : Nat → Int32) : Int32 := x_ex_countStableByLabels n att
set_option maxRecDepth 100000 in
set_option maxHeartbeats 8000000 in
theorem e_am_stableCountByLabels {g : q_G} {h : q_H} {d : Nat} {hs : Bool} {se : Int32} {sf : Int32} (sam : z_Am h 100 hs se sf) {n : Nat} {id : Nat → Int32} {wt : Nat → Int32} {ag : Nat → Int32} {tg : Nat → Int32} {att : Nat → Int32} {ni : Int32} {dy : Int32} {mn : Nat} {mv : Nat → Int32} {en : Int32} {wo : Int32} {br : Int32} (sst : z_S2 h 101 n id wt ag tg att ni dy mn mv en wo br) {pf : Nat → Int32} {cv : Nat → Int32} {sc : Nat} (sex : z_Ex h 204 pf cv sc)     (hd : 23 ≤ d) : q_Spec g mX10_stableCountByLabels d 0 0 [.ref (100)] h (q_ret ((some (.int (x_am_stableCountByLabels n att)))) h) := by
  have hb_st_n := sst.bn
  have hb_st_mn := sst.bmn
  have hb_ex_sc := sex.bsc
  have ho_st_n := sst.bn
  have ho_st_mn := sst.bmn
  have ho_ex_sc := sex.bsc
  refine q_enter (by decide +kernel) rfl rfl (Nat.le_of_ble_eq_true rfl) (fun hz => ?_)
  change q_W _ _ _ _ _ _ _ _ _ [.ref (100)] [] _
  refine q_aload_n (by first | assumption | omega | decide | (rw [q_R0e]; omega)) dX10_stableCountByLabels_0 rfl ?_
  refine q_getf (k := 6) (v := .ref (204)) kC_X10 kL_X10_46 rfl (by decide) dX10_stableCountByLabels_1 sam.c0 rfl ?_
  refine q_aload_n (by first | assumption | omega | decide | (rw [q_R0e]; omega)) dX10_stableCountByLabels_4 rfl ?_
  refine q_getf (k := 0) (v := .ref (101)) kC_X10 kL_X10_12 rfl (by decide) dX10_stableCountByLabels_5 sam.c0 rfl ?_
  refine q_invV (mc' := 0) (ms' := 0) (d' := d - 1) (as := [.ref (101)]) dX10_stableCountByLabels_8 kM_X3_countStableByLabels kL_X10_205 kI_X3_countStableByLabels kS_X3_countStableByLabels rfl (kC_X3.1) sex.c0 rfl rfl (Nat.le_of_ble_eq_true rfl) (by omega) (by decide) (by omega) (by omega) (e_ex_countStableByLabels (d := d - 1) sex sst (by omega)) (q_kR ?_) q_xR
  change q_W _ _ _ _ _ _ _ _ 11 [.ref (100)] [.int (x_ex_countStableByLabels n att)] _
  have hE : x_am_stableCountByLabels n att = x_ex_countStableByLabels n att := by simp only [x_am_stableCountByLabels]
  rw [hE]
  exact q_ireturn dX10_stableCountByLabels_11 rfl rfl (by omega) (by omega) ⟨rfl, rfl⟩
def x_am_greatestAdmissible (n : Nat) (att : Nat → Int32) : Int32 := x_ex_sizeOfGreatestAdmissible n att
set_option maxRecDepth 100000 in
set_option maxHeartbeats 8000000 in
theorem e_am_greatestAdmissible {g : q_G} {h : q_H} {d : Nat} {hs : Bool} {se : Int32} {sf : Int32} (sam : z_Am h 100 hs se sf) {n : Nat} {id : Nat → Int32} {wt : Nat → Int32} {ag : Nat → Int32} {tg : Nat → Int32} {att : Nat → Int32} {ni : Int32} {dy : Int32} {mn : Nat} {mv : Nat → Int32} {en : Int32} {wo : Int32} {br : Int32} (sst : z_S2 h 101 n id wt ag tg att ni dy mn mv en wo br) {pf : Nat → Int32} {cv : Nat → Int32} {sc : Nat} (sex : z_Ex h 204 pf cv sc)     (hd : 4 ≤ d) : q_Spec g mX10_greatestAdmissible d 0 0 [.ref (100)] h (q_ret ((some (.int (x_am_greatestAdmissible n att)))) h) := by
  have hb_st_n := sst.bn
  have hb_st_mn := sst.bmn
  have hb_ex_sc := sex.bsc
  have ho_st_n := sst.bn
  have ho_st_mn := sst.bmn
  have ho_ex_sc := sex.bsc
  refine q_enter (by decide +kernel) rfl rfl (Nat.le_of_ble_eq_true rfl) (fun hz => ?_)
  change q_W _ _ _ _ _ _ _ _ _ [.ref (100)] [] _
  refine q_aload_n (by first | assumption | omega | decide | (rw [q_R0e]; omega)) dX10_greatestAdmissible_0 rfl ?_
  refine q_getf (k := 6) (v := .ref (204)) kC_X10 kL_X10_46 rfl (by decide) dX10_greatestAdmissible_1 sam.c0 rfl ?_
  refine q_aload_n (by first | assumption | omega | decide | (rw [q_R0e]; omega)) dX10_greatestAdmissible_4 rfl ?_
  refine q_getf (k := 0) (v := .ref (101)) kC_X10 kL_X10_12 rfl (by decide) dX10_greatestAdmissible_5 sam.c0 rfl ?_
  refine q_invV (mc' := 0) (ms' := 0) (d' := d - 1) (as := [.ref (101)]) dX10_greatestAdmissible_8 kM_X3_sizeOfGreatestAdmissible kL_X10_214 kI_X3_sizeOfGreatestAdmissible kS_X3_sizeOfGreatestAdmissible rfl (kC_X3.1) sex.c0 rfl rfl (Nat.le_of_ble_eq_true rfl) (by omega) (by decide) (by omega) (by omega) (e_ex_sizeOfGreatestAdmissible (d := d - 1) sex sst (by omega)) (q_kR ?_) q_xR
  change q_W _ _ _ _ _ _ _ _ 11 [.ref (100)] [.int (x_ex_sizeOfGreatestAdmissible n att)] _
  have hE : x_am_greatestAdmissible n att = x_ex_sizeOfGreatestAdmissible n att := by simp only [x_am_greatestAdmissible]
  rw [hE]
  exact q_ireturn dX10_greatestAdmissible_11 rfl rfl (by omega) (by omega) ⟨rfl, rfl⟩
def x_am_preferredCount (n : Nat) (att : Nat → Int32) (pf : Nat → Int32) (cv : Nat → Int32) : (Int32) × (Nat → Int32) × (Nat → Int32) × (Nat) := (match x_ex_find pf cv n att with | (y1_pf, y1_cv, y1_sc) => (x_ex_countPreferredWith y1_pf y1_sc 0, y1_pf, y1_cv, y1_sc))
set_option maxRecDepth 100000 in
set_option maxHeartbeats 8000000 in
theorem e_am_preferredCount {g : q_G} {h : q_H} {d : Nat} {hs : Bool} {se : Int32} {sf : Int32} (sam : z_Am h 100 hs se sf) {n : Nat} {id : Nat → Int32} {wt : Nat → Int32} {ag : Nat → Int32} {tg : Nat → Int32} {att : Nat → Int32} {ni : Int32} {dy : Int32} {mn : Nat} {mv : Nat → Int32} {en : Int32} {wo : Int32} {br : Int32} (sst : z_S2 h 101 n id wt ag tg att ni dy mn mv en wo br) {pf : Nat → Int32} {cv : Nat → Int32} {sc : Nat} (sex : z_Ex h 204 pf cv sc)     (hd : 4 ≤ d) : q_Spec g mX10_preferredCount d 0 0 [.ref (100)] h (q_chg (.inl (some (.int (x_am_preferredCount n att pf cv).1))) (fun h1 => z_Am h1 100 hs se sf ∧ z_S2 h1 101 n id wt ag tg att ni dy mn mv en wo br ∧ z_Ex h1 204 ((x_am_preferredCount n att pf cv).2.1) ((x_am_preferredCount n att pf cv).2.2.1) ((x_am_preferredCount n att pf cv).2.2.2) ∧ q_same h h1 204 3)) := by
  have hb_st_n := sst.bn
  have hb_st_mn := sst.bmn
  have hb_ex_sc := sex.bsc
  have ho_st_n := sst.bn
  have ho_st_mn := sst.bmn
  have ho_ex_sc := sex.bsc
  have p0 : q_same h h 204 3 := q_same.rfl'
  refine q_enter (by decide +kernel) rfl rfl (Nat.le_of_ble_eq_true rfl) (fun hz => ?_)
  change q_W _ _ _ _ _ _ _ _ _ [.ref (100)] [] _
  refine q_aload_n (by first | assumption | omega | decide | (rw [q_R0e]; omega)) dX10_preferredCount_0 rfl ?_
  refine q_getf (k := 6) (v := .ref (204)) kC_X10 kL_X10_46 rfl (by decide) dX10_preferredCount_1 sam.c0 rfl ?_
  refine q_aload_n (by first | assumption | omega | decide | (rw [q_R0e]; omega)) dX10_preferredCount_4 rfl ?_
  refine q_getf (k := 0) (v := .ref (101)) kC_X10 kL_X10_12 rfl (by decide) dX10_preferredCount_5 sam.c0 rfl ?_
  rcases x1 : x_ex_find pf cv n att with ⟨y1_pf, y1_cv, y1_sc⟩
  have e9 := e_ex_find (g := g) (h := h) (d := d - 1) sex sst (by omega) (by omega)
  rw [x1] at e9
  refine q_invV (mc' := 0) (ms' := 0) (d' := d - 1) (as := [.ref (101)]) dX10_preferredCount_8 kM_X3_find kL_X10_208 kI_X3_find kS_X3_find rfl (kC_X3.1) sex.c0 rfl rfl (Nat.le_of_ble_eq_true rfl) (by omega) (by decide) (by omega) (by omega) (e9) (q_kC (fun h2 hB => ?_)) q_xC
  obtain ⟨t2_0, t2_1, pp2⟩ := hB
  have sex2 := t2_0
  have sst2 := t2_1
  have sam2 := sam.keep pp2 (by omega)
  have p2 := p0.trans (pp2.wide (by omega) (by omega))
  have hb_ex_sc : y1_sc ≤ 256 := sex2.bsc
  change q_W _ _ _ _ _ _ _ _ 11 [.ref (100)] [] _
  refine q_aload_n (by first | assumption | omega | decide | (rw [q_R0e]; omega)) dX10_preferredCount_11 rfl ?_
  refine q_getf (k := 6) (v := .ref (204)) kC_X10 kL_X10_46 rfl (by decide) dX10_preferredCount_12 sam2.c0 rfl ?_
  refine q_iconst (v := 0) dX10_preferredCount_15 rfl ?_
  refine q_invV (mc' := 0) (ms' := 0) (d' := d - 1) (as := [.int (0)]) dX10_preferredCount_16 kM_X3_countPreferredWith kL_X10_211 kI_X3_countPreferredWith kS_X3_countPreferredWith rfl (kC_X3.1) sex2.c0 rfl rfl (Nat.le_of_ble_eq_true rfl) (by omega) (by decide) (by omega) (by omega) (e_ex_countPreferredWith (d := d - 1) sex2 0 (by omega)) (q_kR ?_) q_xR
  change q_W _ _ _ _ _ _ _ _ 19 [.ref (100)] [.int (x_ex_countPreferredWith y1_pf y1_sc 0)] _
  have hE : x_am_preferredCount n att pf cv = (x_ex_countPreferredWith y1_pf y1_sc 0, y1_pf, y1_cv, y1_sc) := by simp only [x_am_preferredCount, x1]
  rw [hE]
  exact q_ireturn dX10_preferredCount_19 rfl rfl (by omega) (by omega) ⟨rfl, sam2, sst2, sex2, p2⟩
def x_am_canStandTogether (n : Nat) (id : Nat → Int32) (att : Nat → Int32) (pf : Nat → Int32) (cv : Nat → Int32) (sc : Nat) (xid : Int32) (xo : Int32) : (Bool ⊕ String) × (Nat → Int32) × (Nat → Int32) × (Nat) := (match x_st_slotOfKnown n id xid with | (.inl v1) => (match x_st_slotOfKnown n id xo with | (.inl v3) => (match x_ex_find pf cv n att with | (y5_pf, y5_cv, y5_sc) => (let v7 := x_ex_countPreferredWith y5_pf y5_sc (((1 : Int32) <<< ((nI (v1)) &&& 31)) ||| ((1 : Int32) <<< ((nI (v3)) &&& 31))); (if (v7) ≤ (0) then (.inl false, y5_pf, y5_cv, y5_sc) else (.inl true, y5_pf, y5_cv, y5_sc)))) | (.inr e3) => (.inr e3, pf, cv, sc)) | (.inr e1) => (.inr e1, pf, cv, sc))
set_option maxRecDepth 100000 in
set_option maxHeartbeats 8000000 in
theorem e_am_canStandTogether {g : q_G} {h : q_H} {d : Nat} {hs : Bool} {se : Int32} {sf : Int32} (sam : z_Am h 100 hs se sf) {n : Nat} {id : Nat → Int32} {wt : Nat → Int32} {ag : Nat → Int32} {tg : Nat → Int32} {att : Nat → Int32} {ni : Int32} {dy : Int32} {mn : Nat} {mv : Nat → Int32} {en : Int32} {wo : Int32} {br : Int32} (sst : z_S2 h 101 n id wt ag tg att ni dy mn mv en wo br) {pf : Nat → Int32} {cv : Nat → Int32} {sc : Nat} (sex : z_Ex h 204 pf cv sc)  (xid : Int32) (xo : Int32)   (hd : 8 ≤ d) : q_Spec g mX10_canStandTogether d 2 12 [.ref (100), .int (xid), .int (xo)] h (q_chg (q_oB (x_am_canStandTogether n id att pf cv sc xid xo).1) (fun h1 => z_Am h1 100 hs se sf ∧ z_S2 h1 101 n id wt ag tg att ni dy mn mv en wo br ∧ z_Ex h1 204 ((x_am_canStandTogether n id att pf cv sc xid xo).2.1) ((x_am_canStandTogether n id att pf cv sc xid xo).2.2.1) ((x_am_canStandTogether n id att pf cv sc xid xo).2.2.2) ∧ q_same h h1 204 3)) := by
  have hb_st_n := sst.bn
  have hb_st_mn := sst.bmn
  have hb_ex_sc := sex.bsc
  have ho_st_n := sst.bn
  have ho_st_mn := sst.bmn
  have ho_ex_sc := sex.bsc
  have p0 : q_same h h 204 3 := q_same.rfl'
  refine q_enter (by decide +kernel) rfl rfl (Nat.le_of_ble_eq_true rfl) (fun hz => ?_)
  change q_W _ _ _ _ _ _ _ _ _ [.ref (100), .int (xid), .int (xo), q_u] [] _
  refine q_iconst (v := 1) dX10_canStandTogether_0 rfl ?_
  refine q_aload_n (by first | assumption | omega | decide | (rw [q_R0e]; omega)) dX10_canStandTogether_1 rfl ?_
  refine q_getf (k := 0) (v := .ref (101)) kC_X10 kL_X10_12 rfl (by decide) dX10_canStandTogether_2 sam.c0 rfl ?_
  refine q_iload_n dX10_canStandTogether_5 rfl ?_
  rcases x1 : x_st_slotOfKnown n id xid with v1 | e1
  · have e9 := e_st_slotOfKnown (g := g) (h := h) (d := d - 1) sst xid (by omega)
    rw [x1] at e9
    refine q_invV (mc' := 1) (ms' := 6) (d' := d - 1) (as := [.int (xid)]) dX10_canStandTogether_6 kM_X8_slotOfKnown kL_X10_138 kI_X8_slotOfKnown kS_X8_slotOfKnown rfl (kC_X8.1) sst.c0 rfl rfl (Nat.le_of_ble_eq_true rfl) (by omega) (by decide) (by omega) (by omega) (e9) (q_kR ?_) q_xR
    have f1 := z_slot_lt x1
    change q_W _ _ _ _ _ _ _ _ 9 [.ref (100), .int (xid), .int (xo), q_u] [.int (nI (v1)), .int (1)] _
    refine q_ishl dX10_canStandTogether_9 ?_
    refine q_iconst (v := 1) dX10_canStandTogether_10 rfl ?_
    refine q_aload_n (by first | assumption | omega | decide | (rw [q_R0e]; omega)) dX10_canStandTogether_11 rfl ?_
    refine q_getf (k := 0) (v := .ref (101)) kC_X10 kL_X10_12 rfl (by decide) dX10_canStandTogether_12 sam.c0 rfl ?_
    refine q_iload_n dX10_canStandTogether_15 rfl ?_
    rcases x3 : x_st_slotOfKnown n id xo with v3 | e3
    · have e9 := e_st_slotOfKnown (g := g) (h := h) (d := d - 1) sst xo (by omega)
      rw [x3] at e9
      refine q_invV (mc' := 1) (ms' := 6) (d' := d - 1) (as := [.int (xo)]) dX10_canStandTogether_16 kM_X8_slotOfKnown kL_X10_138 kI_X8_slotOfKnown kS_X8_slotOfKnown rfl (kC_X8.1) sst.c0 rfl rfl (Nat.le_of_ble_eq_true rfl) (by omega) (by decide) (by omega) (by omega) (e9) (q_kR ?_) q_xR
      have f3 := z_slot_lt x3
      change q_W _ _ _ _ _ _ _ _ 19 [.ref (100), .int (xid), .int (xo), q_u] [.int (nI (v3)), .int (1), .int ((1 : Int32) <<< ((nI (v1)) &&& 31))] _
      refine q_ishl dX10_canStandTogether_19 ?_
      refine q_ior dX10_canStandTogether_20 ?_
      refine q_istore_n dX10_canStandTogether_21 (by decide) rfl ?_
      change q_W _ _ _ _ _ _ _ _ _ [.ref (100), .int (xid), .int (xo), .int (((1 : Int32) <<< ((nI (v1)) &&& 31)) ||| ((1 : Int32) <<< ((nI (v3)) &&& 31)))] [] _
      refine q_aload_n (by first | assumption | omega | decide | (rw [q_R0e]; omega)) dX10_canStandTogether_22 rfl ?_
      refine q_getf (k := 6) (v := .ref (204)) kC_X10 kL_X10_46 rfl (by decide) dX10_canStandTogether_23 sam.c0 rfl ?_
      refine q_aload_n (by first | assumption | omega | decide | (rw [q_R0e]; omega)) dX10_canStandTogether_26 rfl ?_
      refine q_getf (k := 0) (v := .ref (101)) kC_X10 kL_X10_12 rfl (by decide) dX10_canStandTogether_27 sam.c0 rfl ?_
      rcases x5 : x_ex_find pf cv n att with ⟨y5_pf, y5_cv, y5_sc⟩
      have e9 := e_ex_find (g := g) (h := h) (d := d - 1) sex sst (by omega) (by omega)
      rw [x5] at e9
      refine q_invV (mc' := 0) (ms' := 0) (d' := d - 1) (as := [.ref (101)]) dX10_canStandTogether_30 kM_X3_find kL_X10_208 kI_X3_find kS_X3_find rfl (kC_X3.1) sex.c0 rfl rfl (Nat.le_of_ble_eq_true rfl) (by omega) (by decide) (by omega) (by omega) (e9) (q_kC (fun h6 hB => ?_)) q_xC
      obtain ⟨t6_0, t6_1, pp6⟩ := hB
      have sex6 := t6_0
      have sst6 := t6_1
      have sam6 := sam.keep pp6 (by omega)
      have p6 := p0.trans (pp6.wide (by omega) (by omega))
      have hb_ex_sc : y5_sc ≤ 256 := sex6.bsc
      change q_W _ _ _ _ _ _ _ _ 33 [.ref (100), .int (xid), .int (xo), .int (((1 : Int32) <<< ((nI (v1)) &&& 31)) ||| ((1 : Int32) <<< ((nI (v3)) &&& 31)))] [] _
      refine q_aload_n (by first | assumption | omega | decide | (rw [q_R0e]; omega)) dX10_canStandTogether_33 rfl ?_
      refine q_getf (k := 6) (v := .ref (204)) kC_X10 kL_X10_46 rfl (by decide) dX10_canStandTogether_34 sam6.c0 rfl ?_
      refine q_iload_n dX10_canStandTogether_37 rfl ?_
      obtain ⟨v7, x7⟩ : ∃ z, x_ex_countPreferredWith y5_pf y5_sc (((1 : Int32) <<< ((nI (v1)) &&& 31)) ||| ((1 : Int32) <<< ((nI (v3)) &&& 31))) = z := ⟨_, rfl⟩
      have e9 := e_ex_countPreferredWith (g := g) (h := h6) (d := d - 1) sex6 (((1 : Int32) <<< ((nI (v1)) &&& 31)) ||| ((1 : Int32) <<< ((nI (v3)) &&& 31))) (by omega)
      rw [x7] at e9
      refine q_invV (mc' := 0) (ms' := 0) (d' := d - 1) (as := [.int (((1 : Int32) <<< ((nI (v1)) &&& 31)) ||| ((1 : Int32) <<< ((nI (v3)) &&& 31)))]) dX10_canStandTogether_38 kM_X3_countPreferredWith kL_X10_211 kI_X3_countPreferredWith kS_X3_countPreferredWith rfl (kC_X3.1) sex6.c0 rfl rfl (Nat.le_of_ble_eq_true rfl) (by omega) (by decide) (by omega) (by omega) (e9) (q_kR ?_) q_xR
      change q_W _ _ _ _ _ _ _ _ 41 [.ref (100), .int (xid), .int (xo), .int (((1 : Int32) <<< ((nI (v1)) &&& 31)) ||| ((1 : Int32) <<< ((nI (v3)) &&& 31)))] [.int (v7)] _
      refine q_if_le 48 dX10_canStandTogether_41 (by decide) (fun b41 => ?_) (fun b41 => ?_)
      · refine q_iconst (v := 0) dX10_canStandTogether_48 rfl ?_
        have hE : x_am_canStandTogether n id att pf cv sc xid xo = (.inl false, y5_pf, y5_cv, y5_sc) := by simp only [x_am_canStandTogether, x1, x3, x5, x7, if_pos b41]
        rw [hE]
        exact q_ireturn dX10_canStandTogether_49 rfl rfl (by omega) (by omega) ⟨rfl, sam6, sst6, sex6, p6⟩
      · refine q_iconst (v := 1) dX10_canStandTogether_44 rfl ?_
        refine q_goto 49 dX10_canStandTogether_45 (by decide) ?_
        have hE : x_am_canStandTogether n id att pf cv sc xid xo = (.inl true, y5_pf, y5_cv, y5_sc) := by simp only [x_am_canStandTogether, x1, x3, x5, x7, if_neg b41]
        rw [hE]
        exact q_ireturn dX10_canStandTogether_49 rfl rfl (by omega) (by omega) ⟨rfl, sam6, sst6, sex6, p6⟩
    · have e9 := e_st_slotOfKnown (g := g) (h := h) (d := d - 1) sst xo (by omega)
      rw [x3] at e9
      refine q_invV (mc' := 1) (ms' := 6) (d' := d - 1) (as := [.int (xo)]) dX10_canStandTogether_16 kM_X8_slotOfKnown kL_X10_138 kI_X8_slotOfKnown kS_X8_slotOfKnown rfl (kC_X8.1) sst.c0 rfl rfl (Nat.le_of_ble_eq_true rfl) (by omega) (by decide) (by omega) (by omega) (e9) q_kT (q_xT ?_)
      have hE : x_am_canStandTogether n id att pf cv sc xid xo = (.inr e3, pf, cv, sc) := by simp only [x_am_canStandTogether, x1, x3]
      rw [hE]
      exact q_xout rfl ⟨rfl, sam.keep (q_same.skip (a := 0) (k := 0)) (Or.inr (Nat.zero_le _)), sst.keep (q_same.skip (a := 0) (k := 0)) (Or.inr (Nat.zero_le _)), sex.keep (q_same.skip (a := 0) (k := 0)) (Or.inr (Nat.zero_le _)), p0.trans q_same.skip⟩ (by omega) (by omega)
  · have e9 := e_st_slotOfKnown (g := g) (h := h) (d := d - 1) sst xid (by omega)
    rw [x1] at e9
    refine q_invV (mc' := 1) (ms' := 6) (d' := d - 1) (as := [.int (xid)]) dX10_canStandTogether_6 kM_X8_slotOfKnown kL_X10_138 kI_X8_slotOfKnown kS_X8_slotOfKnown rfl (kC_X8.1) sst.c0 rfl rfl (Nat.le_of_ble_eq_true rfl) (by omega) (by decide) (by omega) (by omega) (e9) q_kT (q_xT ?_)
    have hE : x_am_canStandTogether n id att pf cv sc xid xo = (.inr e1, pf, cv, sc) := by simp only [x_am_canStandTogether, x1]
    rw [hE]
    exact q_xout rfl ⟨rfl, sam.keep (q_same.skip (a := 0) (k := 0)) (Or.inr (Nat.zero_le _)), sst.keep (q_same.skip (a := 0) (k := 0)) (Or.inr (Nat.zero_le _)), sex.keep (q_same.skip (a := 0) (k := 0)) (Or.inr (Nat.zero_le _)), p0.trans q_same.skip⟩ (by omega) (by omega)
def x_am_isCredible (n : Nat) (id : Nat → Int32) (att : Nat → Int32) (pf : Nat → Int32) (cv : Nat → Int32) (sc : Nat) (xid : Int32) : (Bool ⊕ String) × (Nat → Int32) × (Nat → Int32) × (Nat) := (match x_am_canStandTogether n id att pf cv sc xid xid with | ((.inl v1), y1_pf, y1_cv, y1_sc) => (.inl v1, y1_pf, y1_cv, y1_sc) | ((.inr e1), y1_pf, y1_cv, y1_sc) => (.inr e1, y1_pf, y1_cv, y1_sc))
set_option maxRecDepth 100000 in
set_option maxHeartbeats 8000000 in
theorem e_am_isCredible {g : q_G} {h : q_H} {d : Nat} {hs : Bool} {se : Int32} {sf : Int32} (sam : z_Am h 100 hs se sf) {n : Nat} {id : Nat → Int32} {wt : Nat → Int32} {ag : Nat → Int32} {tg : Nat → Int32} {att : Nat → Int32} {ni : Int32} {dy : Int32} {mn : Nat} {mv : Nat → Int32} {en : Int32} {wo : Int32} {br : Int32} (sst : z_S2 h 101 n id wt ag tg att ni dy mn mv en wo br) {pf : Nat → Int32} {cv : Nat → Int32} {sc : Nat} (sex : z_Ex h 204 pf cv sc)  (xid : Int32)   (hd : 9 ≤ d) : q_Spec g mX10_isCredible d 2 12 [.ref (100), .int (xid)] h (q_chg (q_oB (x_am_isCredible n id att pf cv sc xid).1) (fun h1 => z_Am h1 100 hs se sf ∧ z_S2 h1 101 n id wt ag tg att ni dy mn mv en wo br ∧ z_Ex h1 204 ((x_am_isCredible n id att pf cv sc xid).2.1) ((x_am_isCredible n id att pf cv sc xid).2.2.1) ((x_am_isCredible n id att pf cv sc xid).2.2.2) ∧ q_same h h1 204 3)) := by
  have hb_st_n := sst.bn
  have hb_st_mn := sst.bmn
  have hb_ex_sc := sex.bsc
  have ho_st_n := sst.bn
  have ho_st_mn := sst.bmn
  have ho_ex_sc := sex.bsc
  have p0 : q_same h h 204 3 := q_same.rfl'
  refine q_enter (by decide +kernel) rfl rfl (Nat.le_of_ble_eq_true rfl) (fun hz => ?_)
  change q_W _ _ _ _ _ _ _ _ _ [.ref (100), .int (xid)] [] _
  refine q_aload_n (by first | assumption | omega | decide | (rw [q_R0e]; omega)) dX10_isCredible_0 rfl ?_
  refine q_iload_n dX10_isCredible_1 rfl ?_
  refine q_iload_n dX10_isCredible_2 rfl ?_
  rcases x1 : x_am_canStandTogether n id att pf cv sc xid xid with ⟨v1 | e1, y1_pf, y1_cv, y1_sc⟩
  · have e9 := e_am_canStandTogether (g := g) (h := h) (d := d - 1) sam sst sex xid xid (by omega)
    rw [x1] at e9
    refine q_invV (mc' := 2) (ms' := 12) (d' := d - 1) (as := [.int (xid), .int (xid)]) dX10_isCredible_3 kM_X10_canStandTogether kL_X10_217 kI_X10_canStandTogether kS_X10_canStandTogether rfl (kC_X10.1) sam.c0 rfl rfl (Nat.le_of_ble_eq_true rfl) (by omega) (by decide) (by omega) (by omega) (e9) (q_kC (fun h2 hB => ?_)) q_xC
    obtain ⟨t2_0, t2_1, t2_2, pp2⟩ := hB
    have sam2 := t2_0
    have sst2 := t2_1
    have sex2 := t2_2
    have p2 := p0.trans (pp2.wide (by omega) (by omega))
    have hb_ex_sc : y1_sc ≤ 256 := sex2.bsc
    change q_W _ _ _ _ _ _ _ _ 6 [.ref (100), .int (xid)] [.int (z_b (v1))] _
    have hE : x_am_isCredible n id att pf cv sc xid = (.inl v1, y1_pf, y1_cv, y1_sc) := by simp only [x_am_isCredible, x1]
    rw [hE]
    exact q_ireturn dX10_isCredible_6 rfl (z_b_nar _) (by omega) (by omega) ⟨rfl, sam2, sst2, sex2, p2⟩
  · have e9 := e_am_canStandTogether (g := g) (h := h) (d := d - 1) sam sst sex xid xid (by omega)
    rw [x1] at e9
    refine q_invV (mc' := 2) (ms' := 12) (d' := d - 1) (as := [.int (xid), .int (xid)]) dX10_isCredible_3 kM_X10_canStandTogether kL_X10_217 kI_X10_canStandTogether kS_X10_canStandTogether rfl (kC_X10.1) sam.c0 rfl rfl (Nat.le_of_ble_eq_true rfl) (by omega) (by decide) (by omega) (by omega) (e9) q_kCx (q_xCx (fun h3 hB => ?_))
    obtain ⟨t3_0, t3_1, t3_2, pp3⟩ := hB
    have sam3 := t3_0
    have sst3 := t3_1
    have sex3 := t3_2
    have p3 := p0.trans (pp3.wide (by omega) (by omega))
    have hb_ex_sc : y1_sc ≤ 256 := sex3.bsc
    have hE : x_am_isCredible n id att pf cv sc xid = (.inr e1, y1_pf, y1_cv, y1_sc) := by simp only [x_am_isCredible, x1]
    rw [hE]
    exact q_xout rfl ⟨rfl, sam3, sst3, sex3, p3⟩ (by omega) (by omega)
def x_am_isCertain (n : Nat) (id : Nat → Int32) (att : Nat → Int32) (pf : Nat → Int32) (cv : Nat → Int32) (sc : Nat) (xid : Int32) : (Bool ⊕ String) × (Nat → Int32) × (Nat → Int32) × (Nat) := (match x_st_slotOfKnown n id xid with | (.inl v1) => (match x_ex_find pf cv n att with | (y3_pf, y3_cv, y3_sc) => (let v5 := x_ex_countPreferredWith y3_pf y3_sc ((1 : Int32) <<< ((nI (v1)) &&& 31)); (if (v5) = (x_ex_countPreferredWith y3_pf y3_sc 0) then (.inl true, y3_pf, y3_cv, y3_sc) else (.inl false, y3_pf, y3_cv, y3_sc)))) | (.inr e1) => (.inr e1, pf, cv, sc))
set_option maxRecDepth 100000 in
set_option maxHeartbeats 8000000 in
theorem e_am_isCertain {g : q_G} {h : q_H} {d : Nat} {hs : Bool} {se : Int32} {sf : Int32} (sam : z_Am h 100 hs se sf) {n : Nat} {id : Nat → Int32} {wt : Nat → Int32} {ag : Nat → Int32} {tg : Nat → Int32} {att : Nat → Int32} {ni : Int32} {dy : Int32} {mn : Nat} {mv : Nat → Int32} {en : Int32} {wo : Int32} {br : Int32} (sst : z_S2 h 101 n id wt ag tg att ni dy mn mv en wo br) {pf : Nat → Int32} {cv : Nat → Int32} {sc : Nat} (sex : z_Ex h 204 pf cv sc)  (xid : Int32)   (hd : 8 ≤ d) : q_Spec g mX10_isCertain d 1 6 [.ref (100), .int (xid)] h (q_chg (q_oB (x_am_isCertain n id att pf cv sc xid).1) (fun h1 => z_Am h1 100 hs se sf ∧ z_S2 h1 101 n id wt ag tg att ni dy mn mv en wo br ∧ z_Ex h1 204 ((x_am_isCertain n id att pf cv sc xid).2.1) ((x_am_isCertain n id att pf cv sc xid).2.2.1) ((x_am_isCertain n id att pf cv sc xid).2.2.2) ∧ q_same h h1 204 3)) := by
  have hb_st_n := sst.bn
  have hb_st_mn := sst.bmn
  have hb_ex_sc := sex.bsc
  have ho_st_n := sst.bn
  have ho_st_mn := sst.bmn
  have ho_ex_sc := sex.bsc
  have p0 : q_same h h 204 3 := q_same.rfl'
  refine q_enter (by decide +kernel) rfl rfl (Nat.le_of_ble_eq_true rfl) (fun hz => ?_)
  change q_W _ _ _ _ _ _ _ _ _ [.ref (100), .int (xid), q_u] [] _
  refine q_iconst (v := 1) dX10_isCertain_0 rfl ?_
  refine q_aload_n (by first | assumption | omega | decide | (rw [q_R0e]; omega)) dX10_isCertain_1 rfl ?_
  refine q_getf (k := 0) (v := .ref (101)) kC_X10 kL_X10_12 rfl (by decide) dX10_isCertain_2 sam.c0 rfl ?_
  refine q_iload_n dX10_isCertain_5 rfl ?_
  rcases x1 : x_st_slotOfKnown n id xid with v1 | e1
  · have e9 := e_st_slotOfKnown (g := g) (h := h) (d := d - 1) sst xid (by omega)
    rw [x1] at e9
    refine q_invV (mc' := 1) (ms' := 6) (d' := d - 1) (as := [.int (xid)]) dX10_isCertain_6 kM_X8_slotOfKnown kL_X10_138 kI_X8_slotOfKnown kS_X8_slotOfKnown rfl (kC_X8.1) sst.c0 rfl rfl (Nat.le_of_ble_eq_true rfl) (by omega) (by decide) (by omega) (by omega) (e9) (q_kR ?_) q_xR
    have f1 := z_slot_lt x1
    change q_W _ _ _ _ _ _ _ _ 9 [.ref (100), .int (xid), q_u] [.int (nI (v1)), .int (1)] _
    refine q_ishl dX10_isCertain_9 ?_
    refine q_istore_n dX10_isCertain_10 (by decide) rfl ?_
    change q_W _ _ _ _ _ _ _ _ _ [.ref (100), .int (xid), .int ((1 : Int32) <<< ((nI (v1)) &&& 31))] [] _
    refine q_aload_n (by first | assumption | omega | decide | (rw [q_R0e]; omega)) dX10_isCertain_11 rfl ?_
    refine q_getf (k := 6) (v := .ref (204)) kC_X10 kL_X10_46 rfl (by decide) dX10_isCertain_12 sam.c0 rfl ?_
    refine q_aload_n (by first | assumption | omega | decide | (rw [q_R0e]; omega)) dX10_isCertain_15 rfl ?_
    refine q_getf (k := 0) (v := .ref (101)) kC_X10 kL_X10_12 rfl (by decide) dX10_isCertain_16 sam.c0 rfl ?_
    rcases x3 : x_ex_find pf cv n att with ⟨y3_pf, y3_cv, y3_sc⟩
    have e9 := e_ex_find (g := g) (h := h) (d := d - 1) sex sst (by omega) (by omega)
    rw [x3] at e9
    refine q_invV (mc' := 0) (ms' := 0) (d' := d - 1) (as := [.ref (101)]) dX10_isCertain_19 kM_X3_find kL_X10_208 kI_X3_find kS_X3_find rfl (kC_X3.1) sex.c0 rfl rfl (Nat.le_of_ble_eq_true rfl) (by omega) (by decide) (by omega) (by omega) (e9) (q_kC (fun h4 hB => ?_)) q_xC
    obtain ⟨t4_0, t4_1, pp4⟩ := hB
    have sex4 := t4_0
    have sst4 := t4_1
    have sam4 := sam.keep pp4 (by omega)
    have p4 := p0.trans (pp4.wide (by omega) (by omega))
    have hb_ex_sc : y3_sc ≤ 256 := sex4.bsc
    change q_W _ _ _ _ _ _ _ _ 22 [.ref (100), .int (xid), .int ((1 : Int32) <<< ((nI (v1)) &&& 31))] [] _
    refine q_aload_n (by first | assumption | omega | decide | (rw [q_R0e]; omega)) dX10_isCertain_22 rfl ?_
    refine q_getf (k := 6) (v := .ref (204)) kC_X10 kL_X10_46 rfl (by decide) dX10_isCertain_23 sam4.c0 rfl ?_
    refine q_iload_n dX10_isCertain_26 rfl ?_
    obtain ⟨v5, x5⟩ : ∃ z, x_ex_countPreferredWith y3_pf y3_sc ((1 : Int32) <<< ((nI (v1)) &&& 31)) = z := ⟨_, rfl⟩
    have e9 := e_ex_countPreferredWith (g := g) (h := h4) (d := d - 1) sex4 ((1 : Int32) <<< ((nI (v1)) &&& 31)) (by omega)
    rw [x5] at e9
    refine q_invV (mc' := 0) (ms' := 0) (d' := d - 1) (as := [.int ((1 : Int32) <<< ((nI (v1)) &&& 31))]) dX10_isCertain_27 kM_X3_countPreferredWith kL_X10_211 kI_X3_countPreferredWith kS_X3_countPreferredWith rfl (kC_X3.1) sex4.c0 rfl rfl (Nat.le_of_ble_eq_true rfl) (by omega) (by decide) (by omega) (by omega) (e9) (q_kR ?_) q_xR
    change q_W _ _ _ _ _ _ _ _ 30 [.ref (100), .int (xid), .int ((1 : Int32) <<< ((nI (v1)) &&& 31))] [.int (v5)] _
    refine q_aload_n (by first | assumption | omega | decide | (rw [q_R0e]; omega)) dX10_isCertain_30 rfl ?_
    refine q_getf (k := 6) (v := .ref (204)) kC_X10 kL_X10_46 rfl (by decide) dX10_isCertain_31 sam4.c0 rfl ?_
    refine q_iconst (v := 0) dX10_isCertain_34 rfl ?_
    refine q_invV (mc' := 0) (ms' := 0) (d' := d - 1) (as := [.int (0)]) dX10_isCertain_35 kM_X3_countPreferredWith kL_X10_211 kI_X3_countPreferredWith kS_X3_countPreferredWith rfl (kC_X3.1) sex4.c0 rfl rfl (Nat.le_of_ble_eq_true rfl) (by omega) (by decide) (by omega) (by omega) (e_ex_countPreferredWith (d := d - 1) sex4 0 (by omega)) (q_kR ?_) q_xR
    change q_W _ _ _ _ _ _ _ _ 38 [.ref (100), .int (xid), .int ((1 : Int32) <<< ((nI (v1)) &&& 31))] [.int (x_ex_countPreferredWith y3_pf y3_sc 0), .int (v5)] _
    refine q_icmp_ne 45 dX10_isCertain_38 (by decide) (fun b38 => ?_) (fun b38 => ?_)
    · refine q_iconst (v := 0) dX10_isCertain_45 rfl ?_
      have hE : x_am_isCertain n id att pf cv sc xid = (.inl false, y3_pf, y3_cv, y3_sc) := by simp only [x_am_isCertain, x1, x3, x5, if_neg b38]
      rw [hE]
      exact q_ireturn dX10_isCertain_46 rfl rfl (by omega) (by omega) ⟨rfl, sam4, sst4, sex4, p4⟩
    · refine q_iconst (v := 1) dX10_isCertain_41 rfl ?_
      refine q_goto 46 dX10_isCertain_42 (by decide) ?_
      have hE : x_am_isCertain n id att pf cv sc xid = (.inl true, y3_pf, y3_cv, y3_sc) := by simp only [x_am_isCertain, x1, x3, x5, if_pos b38]
      rw [hE]
      exact q_ireturn dX10_isCertain_46 rfl rfl (by omega) (by omega) ⟨rfl, sam4, sst4, sex4, p4⟩
  · have e9 := e_st_slotOfKnown (g := g) (h := h) (d := d - 1) sst xid (by omega)
    rw [x1] at e9
    refine q_invV (mc' := 1) (ms' := 6) (d' := d - 1) (as := [.int (xid)]) dX10_isCertain_6 kM_X8_slotOfKnown kL_X10_138 kI_X8_slotOfKnown kS_X8_slotOfKnown rfl (kC_X8.1) sst.c0 rfl rfl (Nat.le_of_ble_eq_true rfl) (by omega) (by decide) (by omega) (by omega) (e9) q_kT (q_xT ?_)
    have hE : x_am_isCertain n id att pf cv sc xid = (.inr e1, pf, cv, sc) := by simp only [x_am_isCertain, x1]
    rw [hE]
    exact q_xout rfl ⟨rfl, sam.keep (q_same.skip (a := 0) (k := 0)) (Or.inr (Nat.zero_le _)), sst.keep (q_same.skip (a := 0) (k := 0)) (Or.inr (Nat.zero_le _)), sex.keep (q_same.skip (a := 0) (k := 0)) (Or.inr (Nat.zero_le _)), p0.trans q_same.skip⟩ (by omega) (by omega)
def x_am_hasCycle (n : Nat) (att : Nat → Int32) : Bool := x_cy_remain n att
set_option maxRecDepth 100000 in
set_option maxHeartbeats 8000000 in
theorem e_am_hasCycle {g : q_G} {h : q_H} {d : Nat} {hs : Bool} {se : Int32} {sf : Int32} (sam : z_Am h 100 hs se sf) {n : Nat} {id : Nat → Int32} {wt : Nat → Int32} {ag : Nat → Int32} {tg : Nat → Int32} {att : Nat → Int32} {ni : Int32} {dy : Int32} {mn : Nat} {mv : Nat → Int32} {en : Int32} {wo : Int32} {br : Int32} (sst : z_S2 h 101 n id wt ag tg att ni dy mn mv en wo br)     (hd : 2 ≤ d) : q_Spec g mX10_hasCycle d 0 0 [.ref (100)] h (q_ret ((some (.int (z_b (x_am_hasCycle n att))))) h) := by
  have hb_st_n := sst.bn
  have hb_st_mn := sst.bmn
  have ho_st_n := sst.bn
  have ho_st_mn := sst.bmn
  refine q_enter (by decide +kernel) rfl rfl (Nat.le_of_ble_eq_true rfl) (fun hz => ?_)
  change q_W _ _ _ _ _ _ _ _ _ [.ref (100)] [] _
  refine q_aload_n (by first | assumption | omega | decide | (rw [q_R0e]; omega)) dX10_hasCycle_0 rfl ?_
  refine q_getf (k := 0) (v := .ref (101)) kC_X10 kL_X10_12 rfl (by decide) dX10_hasCycle_1 sam.c0 rfl ?_
  refine q_invS (mc' := 0) (ms' := 0) (d' := d - 1) (as := [.ref (101)]) dX10_hasCycle_4 kM_X1_remain kL_X10_220 kT_X1_remain rfl rfl rfl (Nat.le_of_ble_eq_true rfl) (by omega) (by decide) (by omega) (by omega) (e_cy_remain (d := d - 1) sst (by omega)) (q_kR ?_) q_xR
  change q_W _ _ _ _ _ _ _ _ 7 [.ref (100)] [.int (z_b (x_cy_remain n att))] _
  have hE : x_am_hasCycle n att = x_cy_remain n att := by simp only [x_am_hasCycle]
  rw [hE]
  exact q_ireturn dX10_hasCycle_7 rfl (z_b_nar _) (by omega) (by omega) ⟨rfl, rfl⟩
def x_am_hasCycleBySearch (n : Nat) (att : Nat → Int32) : Bool := x_cy_areFound n att
set_option maxRecDepth 100000 in
set_option maxHeartbeats 8000000 in
theorem e_am_hasCycleBySearch {g : q_G} {h : q_H} {d : Nat} {hs : Bool} {se : Int32} {sf : Int32} (sam : z_Am h 100 hs se sf) {n : Nat} {id : Nat → Int32} {wt : Nat → Int32} {ag : Nat → Int32} {tg : Nat → Int32} {att : Nat → Int32} {ni : Int32} {dy : Int32} {mn : Nat} {mv : Nat → Int32} {en : Int32} {wo : Int32} {br : Int32} (sst : z_S2 h 101 n id wt ag tg att ni dy mn mv en wo br)     (hd : 13 ≤ d) : q_Spec g mX10_hasCycleBySearch d 0 0 [.ref (100)] h (q_ret ((some (.int (z_b (x_am_hasCycleBySearch n att))))) h) := by
  have hb_st_n := sst.bn
  have hb_st_mn := sst.bmn
  have ho_st_n := sst.bn
  have ho_st_mn := sst.bmn
  refine q_enter (by decide +kernel) rfl rfl (Nat.le_of_ble_eq_true rfl) (fun hz => ?_)
  change q_W _ _ _ _ _ _ _ _ _ [.ref (100)] [] _
  refine q_aload_n (by first | assumption | omega | decide | (rw [q_R0e]; omega)) dX10_hasCycleBySearch_0 rfl ?_
  refine q_getf (k := 0) (v := .ref (101)) kC_X10 kL_X10_12 rfl (by decide) dX10_hasCycleBySearch_1 sam.c0 rfl ?_
  refine q_invS (mc' := 0) (ms' := 0) (d' := d - 1) (as := [.ref (101)]) dX10_hasCycleBySearch_4 kM_X1_areFound kL_X10_226 kT_X1_areFound rfl rfl rfl (Nat.le_of_ble_eq_true rfl) (by omega) (by decide) (by omega) (by omega) (e_cy_areFound (d := d - 1) sst (by omega)) (q_kR ?_) q_xR
  change q_W _ _ _ _ _ _ _ _ 7 [.ref (100)] [.int (z_b (x_cy_areFound n att))] _
  have hE : x_am_hasCycleBySearch n att = x_cy_areFound n att := by simp only [x_am_hasCycleBySearch]
  rw [hE]
  exact q_ireturn dX10_hasCycleBySearch_7 rfl (z_b_nar _) (by omega) (by omega) ⟨rfl, rfl⟩
def x_am_statusAfter (n : Nat) (id : Nat → Int32) (wt : Nat → Int32) (ag : Nat → Int32) (tg : Nat → Int32) (att : Nat → Int32) (ni : Int32) (dy : Int32) (mn : Nat) (mv : Nat → Int32) (en : Int32) (wo : Int32) (br : Int32) (nl : Nat) (idl : Nat → Int32) (wtl : Nat → Int32) (agl : Nat → Int32) (tgl : Nat → Int32) (attl : Nat → Int32) (nil : Int32) (dyl : Int32) (mnl : Nat) (mvl : Nat → Int32) (enl : Int32) (wol : Int32) (brl : Int32) (ac : Int32) (rj : Int32) (ro : Nat → Int32) (xid : Int32) (xn : Int32) : (Int32 ⊕ String) × (Nat) × (Nat → Int32) × (Nat → Int32) × (Nat → Int32) × (Nat → Int32) × (Nat → Int32) × (Int32) × (Int32) × (Nat) × (Nat → Int32) × (Int32) × (Int32) × (Int32) × (Int32) × (Int32) × (Nat → Int32) := (match x_st_slotOfKnown n id xid with | (.inl v1) => (if (xn) < (0) then (.inr "java/lang/IllegalArgumentException", nl, idl, wtl, agl, tgl, attl, nil, dyl, mnl, mvl, enl, wol, brl, ac, rj, ro) else (if (xn) ≤ (90) then (match x_st_copyFrom idl wtl agl tgl attl mvl n id wt ag tg att ni dy mn mv en wo br with | (y3_n, y3_id, y3_wt, y3_ag, y3_tg, y3_att, y3_ni, y3_dy, y3_mn, y3_mv, y3_en, y3_wo, y3_br) => (match x_st_age y3_n y3_wt y3_ag y3_tg y3_att y3_dy xn with | (v5, y5_ag, y5_att, y5_dy) => (match x_lb_give ro y3_n y5_att with | (y7_ac, y7_rj, y7_ro) => (.inl (x_lb_letter y7_ac y7_rj v1), y3_n, y3_id, y3_wt, y5_ag, y3_tg, y5_att, y3_ni, y5_dy, y3_mn, y3_mv, y3_en, y3_wo, y3_br, y7_ac, y7_rj, y7_ro)))) else (.inr "java/lang/IllegalArgumentException", nl, idl, wtl, agl, tgl, attl, nil, dyl, mnl, mvl, enl, wol, brl, ac, rj, ro))) | (.inr e1) => (.inr e1, nl, idl, wtl, agl, tgl, attl, nil, dyl, mnl, mvl, enl, wol, brl, ac, rj, ro))
set_option maxRecDepth 100000 in
set_option maxHeartbeats 8000000 in
theorem e_am_statusAfter {g : q_G} {h : q_H} {d : Nat} {hs : Bool} {se : Int32} {sf : Int32} (sam : z_Am h 100 hs se sf) {n : Nat} {id : Nat → Int32} {wt : Nat → Int32} {ag : Nat → Int32} {tg : Nat → Int32} {att : Nat → Int32} {ni : Int32} {dy : Int32} {mn : Nat} {mv : Nat → Int32} {en : Int32} {wo : Int32} {br : Int32} (sst : z_S2 h 101 n id wt ag tg att ni dy mn mv en wo br) {nl : Nat} {idl : Nat → Int32} {wtl : Nat → Int32} {agl : Nat → Int32} {tgl : Nat → Int32} {attl : Nat → Int32} {nil : Int32} {dyl : Int32} {mnl : Nat} {mvl : Nat → Int32} {enl : Int32} {wol : Int32} {brl : Int32} (slt : z_S2 h 117 nl idl wtl agl tgl attl nil dyl mnl mvl enl wol brl) {nx : Nat} {kp : Nat} {rw : Nat → ZS} (shs : z_Hs h 125 nx kp rw) {ac : Int32} {rj : Int32} {ro : Nat → Int32} (slb : z_Lb h 199 ac rj ro)  (xid : Int32) (xn : Int32)   (hd : 8 ≤ d) : q_Spec g mX10_statusAfter d 2 12 [.ref (100), .int (xid), .int (xn)] h (q_chg (q_oI (x_am_statusAfter n id wt ag tg att ni dy mn mv en wo br nl idl wtl agl tgl attl nil dyl mnl mvl enl wol brl ac rj ro xid xn).1) (fun h1 => z_Am h1 100 hs se sf ∧ z_S2 h1 101 n id wt ag tg att ni dy mn mv en wo br ∧ z_S2 h1 117 ((x_am_statusAfter n id wt ag tg att ni dy mn mv en wo br nl idl wtl agl tgl attl nil dyl mnl mvl enl wol brl ac rj ro xid xn).2.1) ((x_am_statusAfter n id wt ag tg att ni dy mn mv en wo br nl idl wtl agl tgl attl nil dyl mnl mvl enl wol brl ac rj ro xid xn).2.2.1) ((x_am_statusAfter n id wt ag tg att ni dy mn mv en wo br nl idl wtl agl tgl attl nil dyl mnl mvl enl wol brl ac rj ro xid xn).2.2.2.1) ((x_am_statusAfter n id wt ag tg att ni dy mn mv en wo br nl idl wtl agl tgl attl nil dyl mnl mvl enl wol brl ac rj ro xid xn).2.2.2.2.1) ((x_am_statusAfter n id wt ag tg att ni dy mn mv en wo br nl idl wtl agl tgl attl nil dyl mnl mvl enl wol brl ac rj ro xid xn).2.2.2.2.2.1) ((x_am_statusAfter n id wt ag tg att ni dy mn mv en wo br nl idl wtl agl tgl attl nil dyl mnl mvl enl wol brl ac rj ro xid xn).2.2.2.2.2.2.1) ((x_am_statusAfter n id wt ag tg att ni dy mn mv en wo br nl idl wtl agl tgl attl nil dyl mnl mvl enl wol brl ac rj ro xid xn).2.2.2.2.2.2.2.1) ((x_am_statusAfter n id wt ag tg att ni dy mn mv en wo br nl idl wtl agl tgl attl nil dyl mnl mvl enl wol brl ac rj ro xid xn).2.2.2.2.2.2.2.2.1) ((x_am_statusAfter n id wt ag tg att ni dy mn mv en wo br nl idl wtl agl tgl attl nil dyl mnl mvl enl wol brl ac rj ro xid xn).2.2.2.2.2.2.2.2.2.1) ((x_am_statusAfter n id wt ag tg att ni dy mn mv en wo br nl idl wtl agl tgl attl nil dyl mnl mvl enl wol brl ac rj ro xid xn).2.2.2.2.2.2.2.2.2.2.1) ((x_am_statusAfter n id wt ag tg att ni dy mn mv en wo br nl idl wtl agl tgl attl nil dyl mnl mvl enl wol brl ac rj ro xid xn).2.2.2.2.2.2.2.2.2.2.2.1) ((x_am_statusAfter n id wt ag tg att ni dy mn mv en wo br nl idl wtl agl tgl attl nil dyl mnl mvl enl wol brl ac rj ro xid xn).2.2.2.2.2.2.2.2.2.2.2.2.1) ((x_am_statusAfter n id wt ag tg att ni dy mn mv en wo br nl idl wtl agl tgl attl nil dyl mnl mvl enl wol brl ac rj ro xid xn).2.2.2.2.2.2.2.2.2.2.2.2.2.1) ∧ z_Hs h1 125 nx kp rw ∧ z_Lb h1 199 ((x_am_statusAfter n id wt ag tg att ni dy mn mv en wo br nl idl wtl agl tgl attl nil dyl mnl mvl enl wol brl ac rj ro xid xn).2.2.2.2.2.2.2.2.2.2.2.2.2.2.1) ((x_am_statusAfter n id wt ag tg att ni dy mn mv en wo br nl idl wtl agl tgl attl nil dyl mnl mvl enl wol brl ac rj ro xid xn).2.2.2.2.2.2.2.2.2.2.2.2.2.2.2.1) ((x_am_statusAfter n id wt ag tg att ni dy mn mv en wo br nl idl wtl agl tgl attl nil dyl mnl mvl enl wol brl ac rj ro xid xn).2.2.2.2.2.2.2.2.2.2.2.2.2.2.2.2) ∧ q_same h h1 117 84)) := by
  have hb_st_n := sst.bn
  have hb_st_mn := sst.bmn
  have hb_lt_n := slt.bn
  have hb_lt_mn := slt.bmn
  have hb_hs_nx := shs.bnx
  have hb_hs_kp := shs.bkp
  have ho_st_n := sst.bn
  have ho_st_mn := sst.bmn
  have ho_lt_n := slt.bn
  have ho_lt_mn := slt.bmn
  have ho_hs_nx := shs.bnx
  have ho_hs_kp := shs.bkp
  have p0 : q_same h h 117 84 := q_same.rfl'
  refine q_enter (by decide +kernel) rfl rfl (Nat.le_of_ble_eq_true rfl) (fun hz => ?_)
  change q_W _ _ _ _ _ _ _ _ _ [.ref (100), .int (xid), .int (xn), q_u] [] _
  refine q_aload_n (by first | assumption | omega | decide | (rw [q_R0e]; omega)) dX10_statusAfter_0 rfl ?_
  refine q_getf (k := 0) (v := .ref (101)) kC_X10 kL_X10_12 rfl (by decide) dX10_statusAfter_1 sam.c0 rfl ?_
  refine q_iload_n dX10_statusAfter_4 rfl ?_
  rcases x1 : x_st_slotOfKnown n id xid with v1 | e1
  · have e9 := e_st_slotOfKnown (g := g) (h := h) (d := d - 1) sst xid (by omega)
    rw [x1] at e9
    refine q_invV (mc' := 1) (ms' := 6) (d' := d - 1) (as := [.int (xid)]) dX10_statusAfter_5 kM_X8_slotOfKnown kL_X10_138 kI_X8_slotOfKnown kS_X8_slotOfKnown rfl (kC_X8.1) sst.c0 rfl rfl (Nat.le_of_ble_eq_true rfl) (by omega) (by decide) (by omega) (by omega) (e9) (q_kR ?_) q_xR
    have f1 := z_slot_lt x1
    change q_W _ _ _ _ _ _ _ _ 8 [.ref (100), .int (xid), .int (xn), q_u] [.int (nI (v1))] _
    refine q_istore_n dX10_statusAfter_8 (by decide) rfl ?_
    change q_W _ _ _ _ _ _ _ _ _ [.ref (100), .int (xid), .int (xn), .int (nI (v1))] [] _
    refine q_iload_n dX10_statusAfter_9 rfl ?_
    refine q_if_lt 19 dX10_statusAfter_10 (by decide) (fun b10 => ?_) (fun b10 => ?_)
    · have hE : x_am_statusAfter n id wt ag tg att ni dy mn mv en wo br nl idl wtl agl tgl attl nil dyl mnl mvl enl wol brl ac rj ro xid xn = (.inr "java/lang/IllegalArgumentException", nl, idl, wtl, agl, tgl, attl, nil, dyl, mnl, mvl, enl, wol, brl, ac, rj, ro) := by simp only [x_am_statusAfter, x1, if_pos b10]
      rw [hE]
      refine q_throw kE_X10_241 kR_X10_239 rfl dX10_statusAfter_19 dX10_statusAfter_22 dX10_statusAfter_23 dX10_statusAfter_25 dX10_statusAfter_28 (Nat.le_of_ble_eq_true rfl) (by omega) (by omega) (by omega) ?_
      exact q_xout rfl ⟨rfl, sam.keep (q_same.skip (a := 0) (k := 0)) (Or.inr (Nat.zero_le _)), sst.keep (q_same.skip (a := 0) (k := 0)) (Or.inr (Nat.zero_le _)), slt.keep (q_same.skip (a := 0) (k := 0)) (Or.inr (Nat.zero_le _)), shs.keep (q_same.skip (a := 0) (k := 0)) (Or.inr (Nat.zero_le _)), slb.keep (q_same.skip (a := 0) (k := 0)) (Or.inr (Nat.zero_le _)), p0.trans q_same.skip⟩ (by omega) (by omega)
    · refine q_iload_n dX10_statusAfter_13 rfl ?_
      refine q_bipush (v := 90) dX10_statusAfter_14 rfl ?_
      refine q_icmp_le 29 dX10_statusAfter_16 (by decide) (fun b16 => ?_) (fun b16 => ?_)
      · refine q_aload_n (by first | assumption | omega | decide | (rw [q_R0e]; omega)) dX10_statusAfter_29 rfl ?_
        refine q_getf (k := 2) (v := .ref (117)) kC_X10 kL_X10_19 rfl (by decide) dX10_statusAfter_30 sam.c0 rfl ?_
        refine q_aload_n (by first | assumption | omega | decide | (rw [q_R0e]; omega)) dX10_statusAfter_33 rfl ?_
        refine q_getf (k := 0) (v := .ref (101)) kC_X10 kL_X10_12 rfl (by decide) dX10_statusAfter_34 sam.c0 rfl ?_
        rcases x3 : x_st_copyFrom idl wtl agl tgl attl mvl n id wt ag tg att ni dy mn mv en wo br with ⟨y3_n, y3_id, y3_wt, y3_ag, y3_tg, y3_att, y3_ni, y3_dy, y3_mn, y3_mv, y3_en, y3_wo, y3_br⟩
        have e9 := e_st_copyFrom (g := g) (h := h) (d := d - 1) slt sst (by omega) (by omega)
        rw [x3] at e9
        refine q_invV (mc' := 0) (ms' := 0) (d' := d - 1) (as := [.ref (101)]) dX10_statusAfter_37 kM_X8_copyFrom kL_X10_229 kI_X8_copyFrom kS_X8_copyFrom rfl (kC_X8.1) slt.c0 rfl rfl (Nat.le_of_ble_eq_true rfl) (by omega) (by decide) (by omega) (by omega) (e9) (q_kC (fun h4 hB => ?_)) q_xC
        obtain ⟨t4_0, t4_1, pp4⟩ := hB
        have slt4 := t4_0
        have sst4 := t4_1
        have sam4 := sam.keep pp4 (by omega)
        have shs4 := shs.keep pp4 (by omega)
        have slb4 := slb.keep pp4 (by omega)
        have p4 := p0.trans (pp4.wide (by omega) (by omega))
        have hb_lt_n : y3_n ≤ 8 := slt4.bn
        have hb_lt_mn : y3_mn ≤ 12 := slt4.bmn
        change q_W _ _ _ _ _ _ _ _ 40 [.ref (100), .int (xid), .int (xn), .int (nI (v1))] [] _
        refine q_aload_n (by first | assumption | omega | decide | (rw [q_R0e]; omega)) dX10_statusAfter_40 rfl ?_
        refine q_getf (k := 2) (v := .ref (117)) kC_X10 kL_X10_19 rfl (by decide) dX10_statusAfter_41 sam4.c0 rfl ?_
        refine q_iload_n dX10_statusAfter_44 rfl ?_
        rcases x5 : x_st_age y3_n y3_wt y3_ag y3_tg y3_att y3_dy xn with ⟨v5, y5_ag, y5_att, y5_dy⟩
        have e9 := e_st_age (g := g) (h := h4) (d := d - 1) slt4 xn (by omega)
        rw [x5] at e9
        refine q_invV (mc' := 0) (ms' := 0) (d' := d - 1) (as := [.int (xn)]) dX10_statusAfter_45 kM_X8_age kL_X10_232 kI_X8_age kS_X8_age rfl (kC_X8.1) slt4.c0 rfl rfl (Nat.le_of_ble_eq_true rfl) (by omega) (by decide) (by omega) (by omega) (e9) (q_kC (fun h6 hB => ?_)) q_xC
        obtain ⟨t6_0, pp6⟩ := hB
        have slt6 := t6_0
        have sam6 := sam4.keep pp6 (by omega)
        have sst6 := sst4.keep pp6 (by omega)
        have shs6 := shs4.keep pp6 (by omega)
        have slb6 := slb4.keep pp6 (by omega)
        have p6 := p4.trans (pp6.wide (by omega) (by omega))
        have hb_lt_n : y3_n ≤ 8 := slt6.bn
        have hb_lt_mn : y3_mn ≤ 12 := slt6.bmn
        change q_W _ _ _ _ _ _ _ _ 48 [.ref (100), .int (xid), .int (xn), .int (nI (v1))] [.int (v5)] _
        refine q_pop dX10_statusAfter_48 rfl ?_
        refine q_aload_n (by first | assumption | omega | decide | (rw [q_R0e]; omega)) dX10_statusAfter_49 rfl ?_
        refine q_getf (k := 4) (v := .ref (199)) kC_X10 kL_X10_32 rfl (by decide) dX10_statusAfter_50 sam6.c0 rfl ?_
        refine q_aload_n (by first | assumption | omega | decide | (rw [q_R0e]; omega)) dX10_statusAfter_53 rfl ?_
        refine q_getf (k := 2) (v := .ref (117)) kC_X10 kL_X10_19 rfl (by decide) dX10_statusAfter_54 sam6.c0 rfl ?_
        rcases x7 : x_lb_give ro y3_n y5_att with ⟨y7_ac, y7_rj, y7_ro⟩
        have e9 := e_lb_give (g := g) (h := h6) (d := d - 1) slb6 slt6 (by omega) (by omega)
        rw [x7] at e9
        refine q_invV (mc' := 0) (ms' := 0) (d' := d - 1) (as := [.ref (117)]) dX10_statusAfter_57 kM_X6_give kL_X10_174 kI_X6_give kS_X6_give rfl (kC_X6.1) slb6.c0 rfl rfl (Nat.le_of_ble_eq_true rfl) (by omega) (by decide) (by omega) (by omega) (e9) (q_kC (fun h8 hB => ?_)) q_xC
        obtain ⟨t8_0, t8_1, pp8⟩ := hB
        have slb8 := t8_0
        have slt8 := t8_1
        have sam8 := sam6.keep pp8 (by omega)
        have sst8 := sst6.keep pp8 (by omega)
        have shs8 := shs6.keep pp8 (by omega)
        have p8 := p6.trans (pp8.wide (by omega) (by omega))
        change q_W _ _ _ _ _ _ _ _ 60 [.ref (100), .int (xid), .int (xn), .int (nI (v1))] [] _
        refine q_aload_n (by first | assumption | omega | decide | (rw [q_R0e]; omega)) dX10_statusAfter_60 rfl ?_
        refine q_getf (k := 4) (v := .ref (199)) kC_X10 kL_X10_32 rfl (by decide) dX10_statusAfter_61 sam8.c0 rfl ?_
        refine q_iload_n dX10_statusAfter_64 rfl ?_
        refine q_invV (mc' := 0) (ms' := 0) (d' := d - 1) (as := [.int (nI (v1))]) dX10_statusAfter_65 kM_X6_letter kL_X10_178 kI_X6_letter kS_X6_letter rfl (kC_X6.1) slb8.c0 rfl rfl (Nat.le_of_ble_eq_true rfl) (by omega) (by decide) (by omega) (by omega) (e_lb_letter (d := d - 1) slb8 v1 (by omega)) (q_kR ?_) q_xR
        change q_W _ _ _ _ _ _ _ _ 68 [.ref (100), .int (xid), .int (xn), .int (nI (v1))] [.int (x_lb_letter y7_ac y7_rj v1)] _
        have hE : x_am_statusAfter n id wt ag tg att ni dy mn mv en wo br nl idl wtl agl tgl attl nil dyl mnl mvl enl wol brl ac rj ro xid xn = (.inl (x_lb_letter y7_ac y7_rj v1), y3_n, y3_id, y3_wt, y5_ag, y3_tg, y5_att, y3_ni, y5_dy, y3_mn, y3_mv, y3_en, y3_wo, y3_br, y7_ac, y7_rj, y7_ro) := by simp only [x_am_statusAfter, x1, if_neg b10, if_pos b16, x3, x5, x7]
        rw [hE]
        exact q_ireturn dX10_statusAfter_68 rfl (z_letter_nar _ _ _) (by omega) (by omega) ⟨rfl, sam8, sst8, slt8, shs8, slb8, p8⟩
      · have hE : x_am_statusAfter n id wt ag tg att ni dy mn mv en wo br nl idl wtl agl tgl attl nil dyl mnl mvl enl wol brl ac rj ro xid xn = (.inr "java/lang/IllegalArgumentException", nl, idl, wtl, agl, tgl, attl, nil, dyl, mnl, mvl, enl, wol, brl, ac, rj, ro) := by simp only [x_am_statusAfter, x1, if_neg b10, if_neg b16]
        rw [hE]
        refine q_throw kE_X10_241 kR_X10_239 rfl dX10_statusAfter_19 dX10_statusAfter_22 dX10_statusAfter_23 dX10_statusAfter_25 dX10_statusAfter_28 (Nat.le_of_ble_eq_true rfl) (by omega) (by omega) (by omega) ?_
        exact q_xout rfl ⟨rfl, sam.keep (q_same.skip (a := 0) (k := 0)) (Or.inr (Nat.zero_le _)), sst.keep (q_same.skip (a := 0) (k := 0)) (Or.inr (Nat.zero_le _)), slt.keep (q_same.skip (a := 0) (k := 0)) (Or.inr (Nat.zero_le _)), shs.keep (q_same.skip (a := 0) (k := 0)) (Or.inr (Nat.zero_le _)), slb.keep (q_same.skip (a := 0) (k := 0)) (Or.inr (Nat.zero_le _)), p0.trans q_same.skip⟩ (by omega) (by omega)
  · have e9 := e_st_slotOfKnown (g := g) (h := h) (d := d - 1) sst xid (by omega)
    rw [x1] at e9
    refine q_invV (mc' := 1) (ms' := 6) (d' := d - 1) (as := [.int (xid)]) dX10_statusAfter_5 kM_X8_slotOfKnown kL_X10_138 kI_X8_slotOfKnown kS_X8_slotOfKnown rfl (kC_X8.1) sst.c0 rfl rfl (Nat.le_of_ble_eq_true rfl) (by omega) (by decide) (by omega) (by omega) (e9) q_kT (q_xT ?_)
    have hE : x_am_statusAfter n id wt ag tg att ni dy mn mv en wo br nl idl wtl agl tgl attl nil dyl mnl mvl enl wol brl ac rj ro xid xn = (.inr e1, nl, idl, wtl, agl, tgl, attl, nil, dyl, mnl, mvl, enl, wol, brl, ac, rj, ro) := by simp only [x_am_statusAfter, x1]
    rw [hE]
    exact q_xout rfl ⟨rfl, sam.keep (q_same.skip (a := 0) (k := 0)) (Or.inr (Nat.zero_le _)), sst.keep (q_same.skip (a := 0) (k := 0)) (Or.inr (Nat.zero_le _)), slt.keep (q_same.skip (a := 0) (k := 0)) (Or.inr (Nat.zero_le _)), shs.keep (q_same.skip (a := 0) (k := 0)) (Or.inr (Nat.zero_le _)), slb.keep (q_same.skip (a := 0) (k := 0)) (Or.inr (Nat.zero_le _)), p0.trans q_same.skip⟩ (by omega) (by omega)
def x_am_daysUntilChange_40 (y1_ac : Int32) (y1_rj : Int32) (y3_n : Nat) (y3_id : Nat → Int32) (y3_wt : Nat → Int32) (y3_tg : Nat → Int32) (y3_ni : Int32) (y3_mn : Nat) (y3_mv : Nat → Int32) (y3_en : Int32) (y3_wo : Int32) (y3_br : Int32) : Nat → Nat → (Int32) → (Int32) → (Nat → Int32) → (Nat → Int32) → (Nat → Int32) → (Int32) → ((Int32) × (Int32) × (Nat → Int32) × (Nat → Int32) × (Nat → Int32) × (Int32)) ⊕ ((Int32 ⊕ String) × (Nat) × (Nat → Int32) × (Nat → Int32) × (Nat → Int32) × (Nat → Int32) × (Nat → Int32) × (Int32) × (Int32) × (Nat) × (Nat → Int32) × (Int32) × (Int32) × (Int32) × (Int32) × (Int32) × (Nat → Int32))
  | 0, _, ac_40, rj_40, ro_40, ag_40, att_40, dy_40 => .inl (ac_40, rj_40, ro_40, ag_40, att_40, dy_40)
  | r + 1, k, ac_40, rj_40, ro_40, ag_40, att_40, dy_40 => (match x_st_age y3_n y3_wt ag_40 y3_tg att_40 dy_40 1 with | (v5, y5_ag, y5_att, y5_dy) => (match x_lb_give ro_40 y3_n y5_att with | (y7_ac, y7_rj, y7_ro) => (if (y7_ac) = (y1_ac) then (if (y7_rj) = (y1_rj) then x_am_daysUntilChange_40 y1_ac y1_rj y3_n y3_id y3_wt y3_tg y3_ni y3_mn y3_mv y3_en y3_wo y3_br r (k + 1) y7_ac y7_rj y7_ro y5_ag y5_att y5_dy else .inr (.inl (nI (k)), y3_n, y3_id, y3_wt, y5_ag, y3_tg, y5_att, y3_ni, y5_dy, y3_mn, y3_mv, y3_en, y3_wo, y3_br, y7_ac, y7_rj, y7_ro)) else .inr (.inl (nI (k)), y3_n, y3_id, y3_wt, y5_ag, y3_tg, y5_att, y3_ni, y5_dy, y3_mn, y3_mv, y3_en, y3_wo, y3_br, y7_ac, y7_rj, y7_ro))))
def x_am_daysUntilChange (n : Nat) (id : Nat → Int32) (wt : Nat → Int32) (ag : Nat → Int32) (tg : Nat → Int32) (att : Nat → Int32) (ni : Int32) (dy : Int32) (mn : Nat) (mv : Nat → Int32) (en : Int32) (wo : Int32) (br : Int32) (idl : Nat → Int32) (wtl : Nat → Int32) (agl : Nat → Int32) (tgl : Nat → Int32) (attl : Nat → Int32) (mvl : Nat → Int32) (ro : Nat → Int32) : (Int32 ⊕ String) × (Nat) × (Nat → Int32) × (Nat → Int32) × (Nat → Int32) × (Nat → Int32) × (Nat → Int32) × (Int32) × (Int32) × (Nat) × (Nat → Int32) × (Int32) × (Int32) × (Int32) × (Int32) × (Int32) × (Nat → Int32) := (match x_lb_give ro n att with | (y1_ac, y1_rj, y1_ro) => (match x_st_copyFrom idl wtl agl tgl attl mvl n id wt ag tg att ni dy mn mv en wo br with | (y3_n, y3_id, y3_wt, y3_ag, y3_tg, y3_att, y3_ni, y3_dy, y3_mn, y3_mv, y3_en, y3_wo, y3_br) => (match x_am_daysUntilChange_40 y1_ac y1_rj y3_n y3_id y3_wt y3_tg y3_ni y3_mn y3_mv y3_en y3_wo y3_br 90 1 y1_ac y1_rj y1_ro y3_ag y3_att y3_dy with | .inl (a9_0, a9_1, a9_2, a9_3, a9_4, a9_5) => (.inr "java/util/NoSuchElementException", y3_n, y3_id, y3_wt, a9_3, y3_tg, a9_4, y3_ni, a9_5, y3_mn, y3_mv, y3_en, y3_wo, y3_br, a9_0, a9_1, a9_2) | .inr zz => zz)))
def x_am_save (n : Nat) (id : Nat → Int32) (wt : Nat → Int32) (ag : Nat → Int32) (tg : Nat → Int32) (att : Nat → Int32) (ni : Int32) (dy : Int32) (mn : Nat) (mv : Nat → Int32) (en : Int32) (wo : Int32) (br : Int32) (s1 : ZS) : (Int32) × (Bool) × (ZS) := (match x_st_copyFrom s1.2.1 s1.2.2.1 s1.2.2.2.1 s1.2.2.2.2.1 s1.2.2.2.2.2.1 s1.2.2.2.2.2.2.2.2.2.1 n id wt ag tg att ni dy mn mv en wo br with | (y1_n, y1_id, y1_wt, y1_ag, y1_tg, y1_att, y1_ni, y1_dy, y1_mn, y1_mv, y1_en, y1_wo, y1_br) => (nI (n), true, (y1_n, y1_id, y1_wt, y1_ag, y1_tg, y1_att, y1_ni, y1_dy, y1_mn, y1_mv, y1_en, y1_wo, y1_br)))
def x_am_undoableCount (kp : Nat) : Int32 := nI (kp)
def x_am_errorPosition (se : Int32) : Int32 ⊕ String := (if (se) = (-1) then .inr "java/util/NoSuchElementException" else .inl se)
def x_am_failedCommand (sf : Int32) : Int32 ⊕ String := (if (sf) = (-1) then .inr "java/util/NoSuchElementException" else .inl sf)
def x_am_undo (s : ZS) (nx : Nat) (kp : Nat) (rw : Nat → ZS) : (Int32 ⊕ String) × (ZS) × (Nat) × (Nat) := (if kp = 0 then (.inr "java/lang/IllegalStateException", s, nx, kp) else (match x_st_copyFrom s.2.1 s.2.2.1 s.2.2.2.1 s.2.2.2.2.1 s.2.2.2.2.2.1 s.2.2.2.2.2.2.2.2.2.1 ((rw (x_hi_prev nx)).1) ((rw (x_hi_prev nx)).2.1) ((rw (x_hi_prev nx)).2.2.1) ((rw (x_hi_prev nx)).2.2.2.1) ((rw (x_hi_prev nx)).2.2.2.2.1) ((rw (x_hi_prev nx)).2.2.2.2.2.1) ((rw (x_hi_prev nx)).2.2.2.2.2.2.1) ((rw (x_hi_prev nx)).2.2.2.2.2.2.2.1) ((rw (x_hi_prev nx)).2.2.2.2.2.2.2.2.1) ((rw (x_hi_prev nx)).2.2.2.2.2.2.2.2.2.1) ((rw (x_hi_prev nx)).2.2.2.2.2.2.2.2.2.2.1) ((rw (x_hi_prev nx)).2.2.2.2.2.2.2.2.2.2.2.1) ((rw (x_hi_prev nx)).2.2.2.2.2.2.2.2.2.2.2.2) with | (y3_n, y3_id, y3_wt, y3_ag, y3_tg, y3_att, y3_ni, y3_dy, y3_mn, y3_mv, y3_en, y3_wo, y3_br) => (.inl (nI (kp - 1)), (y3_n, y3_id, y3_wt, y3_ag, y3_tg, y3_att, y3_ni, y3_dy, y3_mn, y3_mv, y3_en, y3_wo, y3_br), x_hi_prev nx, kp - 1)))
def x_am_restore (hs : Bool) (s : ZS) (s1 : ZS) (kp : Nat) : (Int32 ⊕ String) × (ZS) × (Nat) := (if hs then (match x_st_copyFrom s.2.1 s.2.2.1 s.2.2.2.1 s.2.2.2.2.1 s.2.2.2.2.2.1 s.2.2.2.2.2.2.2.2.2.1 s1.1 s1.2.1 s1.2.2.1 s1.2.2.2.1 s1.2.2.2.2.1 s1.2.2.2.2.2.1 s1.2.2.2.2.2.2.1 s1.2.2.2.2.2.2.2.1 s1.2.2.2.2.2.2.2.2.1 s1.2.2.2.2.2.2.2.2.2.1 s1.2.2.2.2.2.2.2.2.2.2.1 s1.2.2.2.2.2.2.2.2.2.2.2.1 s1.2.2.2.2.2.2.2.2.2.2.2.2 with | (y1_n, y1_id, y1_wt, y1_ag, y1_tg, y1_att, y1_ni, y1_dy, y1_mn, y1_mv, y1_en, y1_wo, y1_br) => (let y3_kp := x_hi_forget; (.inl (nI ((y1_n, y1_id, y1_wt, y1_ag, y1_tg, y1_att, y1_ni, y1_dy, y1_mn, y1_mv, y1_en, y1_wo, y1_br).1)), (y1_n, y1_id, y1_wt, y1_ag, y1_tg, y1_att, y1_ni, y1_dy, y1_mn, y1_mv, y1_en, y1_wo, y1_br), y3_kp))) else (.inr "java/lang/IllegalStateException", s, kp))
def x_am_labelsAgreeWithGame_13 (att : Nat → Int32) (y1_ac : Int32) (y1_rj : Int32) (y1_ro : Nat → Int32) : Nat → Nat → (Nat → Int32) → (Nat → Int32) → ((Nat → Int32) × (Nat → Int32)) ⊕ ((Bool) × (Int32) × (Int32) × (Nat → Int32) × (Nat → Int32) × (Nat → Int32))
  | 0, _, lost_13, won_13 => .inl (lost_13, won_13)
  | r + 1, k, lost_13, won_13 => (match x_ga_isWonByProponent won_13 lost_13 att k with | (v3, y3_won, y3_lost) => (if (z_has y1_ac k) = v3 then x_am_labelsAgreeWithGame_13 att y1_ac y1_rj y1_ro r (k + 1) y3_lost y3_won else .inr (false, y1_ac, y1_rj, y1_ro, y3_won, y3_lost)))
set_option maxRecDepth 100000 in
set_option maxHeartbeats 8000000 in
theorem l_am_labelsAgreeWithGame_13 {g : q_G} {h : q_H} {d mc ms kc ks : Nat} {Q : q_O → q_H → Prop} {hs : Bool} {se : Int32} {sf : Int32} {n : Nat} {id : Nat → Int32} {wt : Nat → Int32} {ag : Nat → Int32} {tg : Nat → Int32} {att : Nat → Int32} {ni : Int32} {dy : Int32} {mn : Nat} {mv : Nat → Int32} {en : Int32} {wo : Int32} {br : Int32} {y1_ac : Int32} {y1_rj : Int32} {y1_ro : Nat → Int32}   (ho_st_n : n ≤ 8) (ho_st_mn : mn ≤ 12)  (hd : 20 ≤ d) (hkc : kc + 0 ≤ mc) (hks : ks + 0 ≤ ms) : ∀ (r k : Nat) (lost_13 : Nat → Int32) (won_13 : Nat → Int32) (hh : q_H) (sam_13 : z_Am hh 100 hs se sf) (sst_13 : z_S2 hh 101 n id wt ag tg att ni dy mn mv en wo br) (slb_13 : z_Lb hh 199 y1_ac y1_rj y1_ro) (sga_13 : z_Ga hh 201 won_13 lost_13) (pH : q_same h hh 199 5) (hk_13 : k + r = n) (K : ∀ (r13_0 : Nat → Int32) (r13_1 : Nat → Int32), x_am_labelsAgreeWithGame_13 att y1_ac y1_rj y1_ro r k lost_13 won_13 = .inl (r13_0, r13_1) → ∀ h2, z_Am h2 100 hs se sf → z_S2 h2 101 n id wt ag tg att ni dy mn mv en wo br → z_Lb h2 199 y1_ac y1_rj y1_ro → z_Ga h2 201 r13_1 r13_0 → q_same h h2 199 5 → q_W g mX10_labelsAgreeWithGame d mc ms Q kc ks 58 [q_u, q_u] [] h2) (K2 : ∀ z, x_am_labelsAgreeWithGame_13 att y1_ac y1_rj y1_ro r k lost_13 won_13 = .inr z → ∀ o h1, q_chg (.inl (some (.int (z_b z.1)))) (fun h1 => z_Am h1 100 hs se sf ∧ z_S2 h1 101 n id wt ag tg att ni dy mn mv en wo br ∧ z_Lb h1 199 z.2.1 z.2.2.1 z.2.2.2.1 ∧ z_Ga h1 201 z.2.2.2.2.1 z.2.2.2.2.2 ∧ q_same h h1 199 5) o h1 → Q o h1), q_W g mX10_labelsAgreeWithGame d mc ms Q kc ks 13 [.ref (100), .int (nI (k))] [] hh := by
  intro r
  induction r with
  | zero =>
    intro k lost_13 won_13 hh sam_13 sst_13 slb_13 sga_13 pH hk_13 K K2
    have hb_st_n := sst_13.bn
    have hb_st_mn := sst_13.bmn
    refine q_iload_n dX10_labelsAgreeWithGame_13 rfl ?_
    refine q_aload_n (by first | assumption | omega | decide | (rw [q_R0e]; omega)) dX10_labelsAgreeWithGame_14 rfl ?_
    refine q_getf (k := 0) (v := .ref (101)) kC_X10 kL_X10_12 rfl (by decide) dX10_labelsAgreeWithGame_15 sam_13.c0 rfl ?_
    refine q_getf (k := 6) (v := .int (nI (n))) kC_X8 kL_X10_121 rfl (by decide) dX10_labelsAgreeWithGame_18 sst_13.c0 rfl ?_
    refine q_icmp_ge 58 dX10_labelsAgreeWithGame_21 (by decide) (fun b21 => ?_) (fun b21 => ?_)
    · have b21 := (nI_leI (a := n) (b := k) (by omega) (by omega)).mp b21
      refine q_forget 0 ?_
      refine q_forget 1 ?_
      change q_W _ _ _ _ _ _ _ _ _ [q_u, q_u] [] _
      exact K lost_13 won_13 (by simp only [x_am_labelsAgreeWithGame_13]) hh sam_13 sst_13 slb_13 sga_13 pH
    · have b21 : ¬ (n ≤ k) := fun q => b21 ((nI_leI (a := n) (b := k) (by omega) (by omega)).mpr q)
      exact absurd b21 (by omega)
  | succ r ih =>
    intro k lost_13 won_13 hh sam_13 sst_13 slb_13 sga_13 pH hk_13 K K2
    have hb_st_n := sst_13.bn
    have hb_st_mn := sst_13.bmn
    refine q_iload_n dX10_labelsAgreeWithGame_13 rfl ?_
    refine q_aload_n (by first | assumption | omega | decide | (rw [q_R0e]; omega)) dX10_labelsAgreeWithGame_14 rfl ?_
    refine q_getf (k := 0) (v := .ref (101)) kC_X10 kL_X10_12 rfl (by decide) dX10_labelsAgreeWithGame_15 sam_13.c0 rfl ?_
    refine q_getf (k := 6) (v := .int (nI (n))) kC_X8 kL_X10_121 rfl (by decide) dX10_labelsAgreeWithGame_18 sst_13.c0 rfl ?_
    refine q_icmp_ge 58 dX10_labelsAgreeWithGame_21 (by decide) (fun b21 => ?_) (fun b21 => ?_)
    · have b21 := (nI_leI (a := n) (b := k) (by omega) (by omega)).mp b21
      exact absurd b21 (by omega)
    · have b21 : ¬ (n ≤ k) := fun q => b21 ((nI_leI (a := n) (b := k) (by omega) (by omega)).mpr q)
      refine q_aload_n (by first | assumption | omega | decide | (rw [q_R0e]; omega)) dX10_labelsAgreeWithGame_24 rfl ?_
      refine q_getf (k := 4) (v := .ref (199)) kC_X10 kL_X10_32 rfl (by decide) dX10_labelsAgreeWithGame_25 sam_13.c0 rfl ?_
      refine q_getf (k := 1) (v := .int (y1_ac)) kC_X6 kL_X10_195 rfl (by decide) dX10_labelsAgreeWithGame_28 slb_13.c0 rfl ?_
      refine q_iload_n dX10_labelsAgreeWithGame_31 rfl ?_
      refine q_invS (mc' := 0) (ms' := 0) (d' := d - 1) (as := [.int (y1_ac), .int (nI (k))]) dX10_labelsAgreeWithGame_32 kM_X10_has kL_X10_155 kT_X10_has rfl rfl rfl (Nat.le_of_ble_eq_true rfl) (by omega) (by decide) (by omega) (by omega) (e_has (d := d - 1)) (q_kR ?_) q_xR
      change q_W _ _ _ _ _ _ _ _ 35 [.ref (100), .int (nI (k))] [.int (z_b (z_has y1_ac k))] _
      refine q_aload_n (by first | assumption | omega | decide | (rw [q_R0e]; omega)) dX10_labelsAgreeWithGame_35 rfl ?_
      refine q_getf (k := 5) (v := .ref (201)) kC_X10 kL_X10_39 rfl (by decide) dX10_labelsAgreeWithGame_36 sam_13.c0 rfl ?_
      refine q_aload_n (by first | assumption | omega | decide | (rw [q_R0e]; omega)) dX10_labelsAgreeWithGame_39 rfl ?_
      refine q_getf (k := 0) (v := .ref (101)) kC_X10 kL_X10_12 rfl (by decide) dX10_labelsAgreeWithGame_40 sam_13.c0 rfl ?_
      refine q_iload_n dX10_labelsAgreeWithGame_43 rfl ?_
      rcases x3 : x_ga_isWonByProponent won_13 lost_13 att k with ⟨v3, y3_won, y3_lost⟩
      have e9 := e_ga_isWonByProponent (g := g) (h := hh) (d := d - 1) sga_13 sst_13 k (by omega) (by omega) (by omega)
      rw [x3] at e9
      refine q_invV (mc' := 0) (ms' := 0) (d' := d - 1) (as := [.ref (101), .int (nI (k))]) dX10_labelsAgreeWithGame_44 kM_X4_isWonByProponent kL_X10_187 kI_X4_isWonByProponent kS_X4_isWonByProponent rfl (kC_X4.1) sga_13.c0 rfl rfl (Nat.le_of_ble_eq_true rfl) (by omega) (by decide) (by omega) (by omega) (e9) (q_kC (fun h4 hB => ?_)) q_xC
      obtain ⟨t4_0, t4_1, pp4⟩ := hB
      have sga4 := t4_0
      have sst4 := t4_1
      have sam4 := sam_13.keep pp4 (by omega)
      have slb4 := slb_13.keep pp4 (by omega)
      have p4 := pH.trans (pp4.wide (by omega) (by omega))
      change q_W _ _ _ _ _ _ _ _ 47 [.ref (100), .int (nI (k))] [.int (z_b (v3)), .int (z_b (z_has y1_ac k))] _
      refine q_icmp_eq 52 dX10_labelsAgreeWithGame_47 (by decide) (fun b47 => ?_) (fun b47 => ?_)
      · have b47 := z_bb b47
        refine q_iinc (x := nI (k)) (v := nI (k + 1)) dX10_labelsAgreeWithGame_52 rfl (nI_add _ 1) rfl ?_
        change q_W _ _ _ _ _ _ _ _ _ [.ref (100), .int (nI (k + 1))] [] _
        refine q_goto 13 dX10_labelsAgreeWithGame_55 (by decide) ?_
        change q_W _ _ _ _ _ _ _ _ _ [.ref (100), .int (nI (k + 1))] [] _
        exact ih (k + 1) y3_lost y3_won h4 sam4 sst4 slb4 sga4 p4 (by omega) (fun r13_0 r13_1 e9 => K r13_0 r13_1 (by simp only [x_am_labelsAgreeWithGame_13, x3, if_pos b47]; exact e9)) (fun z9 e9 => K2 z9 (by simp only [x_am_labelsAgreeWithGame_13, x3, if_pos b47]; exact e9))
      · have b47 := z_bbn b47
        refine q_iconst (v := 0) dX10_labelsAgreeWithGame_50 rfl ?_
        exact q_ireturn dX10_labelsAgreeWithGame_51 rfl rfl (by omega) (by omega) (K2 (false, y1_ac, y1_rj, y1_ro, y3_won, y3_lost) (by simp only [x_am_labelsAgreeWithGame_13, x3, if_neg b47]) _ _ ⟨rfl, sam4, sst4, slb4, sga4, p4⟩)
def x_am_labelsAgreeWithGame (n : Nat) (att : Nat → Int32) (ro : Nat → Int32) (won : Nat → Int32) (lost : Nat → Int32) : (Bool) × (Int32) × (Int32) × (Nat → Int32) × (Nat → Int32) × (Nat → Int32) := (match x_lb_give ro n att with | (y1_ac, y1_rj, y1_ro) => (match x_am_labelsAgreeWithGame_13 att y1_ac y1_rj y1_ro n 0 lost won with | .inl (a5_0, a5_1) => (true, y1_ac, y1_rj, y1_ro, a5_1, a5_0) | .inr zz => zz))
set_option maxRecDepth 100000 in
set_option maxHeartbeats 8000000 in
theorem e_am_labelsAgreeWithGame {g : q_G} {h : q_H} {d : Nat} {hs : Bool} {se : Int32} {sf : Int32} (sam : z_Am h 100 hs se sf) {n : Nat} {id : Nat → Int32} {wt : Nat → Int32} {ag : Nat → Int32} {tg : Nat → Int32} {att : Nat → Int32} {ni : Int32} {dy : Int32} {mn : Nat} {mv : Nat → Int32} {en : Int32} {wo : Int32} {br : Int32} (sst : z_S2 h 101 n id wt ag tg att ni dy mn mv en wo br) {ac : Int32} {rj : Int32} {ro : Nat → Int32} (slb : z_Lb h 199 ac rj ro) {won : Nat → Int32} {lost : Nat → Int32} (sga : z_Ga h 201 won lost)     (hd : 20 ≤ d) : q_Spec g mX10_labelsAgreeWithGame d 0 0 [.ref (100)] h (q_chg (.inl (some (.int (z_b (x_am_labelsAgreeWithGame n att ro won lost).1)))) (fun h1 => z_Am h1 100 hs se sf ∧ z_S2 h1 101 n id wt ag tg att ni dy mn mv en wo br ∧ z_Lb h1 199 ((x_am_labelsAgreeWithGame n att ro won lost).2.1) ((x_am_labelsAgreeWithGame n att ro won lost).2.2.1) ((x_am_labelsAgreeWithGame n att ro won lost).2.2.2.1) ∧ z_Ga h1 201 ((x_am_labelsAgreeWithGame n att ro won lost).2.2.2.2.1) ((x_am_labelsAgreeWithGame n att ro won lost).2.2.2.2.2) ∧ q_same h h1 199 5)) := by
  have hb_st_n := sst.bn
  have hb_st_mn := sst.bmn
  have ho_st_n := sst.bn
  have ho_st_mn := sst.bmn
  have p0 : q_same h h 199 5 := q_same.rfl'
  refine q_enter (by decide +kernel) rfl rfl (Nat.le_of_ble_eq_true rfl) (fun hz => ?_)
  change q_W _ _ _ _ _ _ _ _ _ [.ref (100), q_u] [] _
  refine q_aload_n (by first | assumption | omega | decide | (rw [q_R0e]; omega)) dX10_labelsAgreeWithGame_0 rfl ?_
  refine q_getf (k := 4) (v := .ref (199)) kC_X10 kL_X10_32 rfl (by decide) dX10_labelsAgreeWithGame_1 sam.c0 rfl ?_
  refine q_aload_n (by first | assumption | omega | decide | (rw [q_R0e]; omega)) dX10_labelsAgreeWithGame_4 rfl ?_
  refine q_getf (k := 0) (v := .ref (101)) kC_X10 kL_X10_12 rfl (by decide) dX10_labelsAgreeWithGame_5 sam.c0 rfl ?_
  rcases x1 : x_lb_give ro n att with ⟨y1_ac, y1_rj, y1_ro⟩
  have e9 := e_lb_give (g := g) (h := h) (d := d - 1) slb sst (by omega) (by omega)
  rw [x1] at e9
  refine q_invV (mc' := 0) (ms' := 0) (d' := d - 1) (as := [.ref (101)]) dX10_labelsAgreeWithGame_8 kM_X6_give kL_X10_174 kI_X6_give kS_X6_give rfl (kC_X6.1) slb.c0 rfl rfl (Nat.le_of_ble_eq_true rfl) (by omega) (by decide) (by omega) (by omega) (e9) (q_kC (fun h2 hB => ?_)) q_xC
  obtain ⟨t2_0, t2_1, pp2⟩ := hB
  have slb2 := t2_0
  have sst2 := t2_1
  have sam2 := sam.keep pp2 (by omega)
  have sga2 := sga.keep pp2 (by omega)
  have p2 := p0.trans (pp2.wide (by omega) (by omega))
  change q_W _ _ _ _ _ _ _ _ 11 [.ref (100), q_u] [] _
  refine q_iconst (v := 0) dX10_labelsAgreeWithGame_11 rfl ?_
  refine q_istore_n dX10_labelsAgreeWithGame_12 (by decide) rfl ?_
  change q_W _ _ _ _ _ _ _ _ _ [.ref (100), .int (0)] [] _
  change q_W _ _ _ _ _ _ _ _ _ [.ref (100), .int (0)] [] _
  refine l_am_labelsAgreeWithGame_13 ho_st_n ho_st_mn (by omega) (by omega) (by omega) n 0 lost won h2 sam2 sst2 slb2 sga2 p2 (by omega) (fun a5_0 a5_1 x5 h6 sam6 sst6 slb6 sga6 p6 => ?_) (fun zz x5 => ?_)
  · change q_W _ _ _ _ _ _ _ _ 58 [q_u, q_u] [] _
    refine q_iconst (v := 1) dX10_labelsAgreeWithGame_58 rfl ?_
    have hE : x_am_labelsAgreeWithGame n att ro won lost = (true, y1_ac, y1_rj, y1_ro, a5_1, a5_0) := by simp only [x_am_labelsAgreeWithGame, x1, x5]
    rw [hE]
    exact q_ireturn dX10_labelsAgreeWithGame_59 rfl rfl (by omega) (by omega) ⟨rfl, sam6, sst6, slb6, sga6, p6⟩
  · have hE : x_am_labelsAgreeWithGame n att ro won lost = zz := by simp only [x_am_labelsAgreeWithGame, x1, x5]
    rw [hE]
    exact fun _ _ q9 => q9
def x_am_isConsistent (n : Nat) (att : Nat → Int32) (ro : Nat → Int32) (won : Nat → Int32) (lost : Nat → Int32) : (Bool) × (Int32) × (Int32) × (Nat → Int32) × (Nat → Int32) × (Nat → Int32) := (match x_am_labelsAgreeWithGame n att ro won lost with | (v1, y1_ac, y1_rj, y1_ro, y1_won, y1_lost) => (if v1 then (if (x_am_stableCount n att) = (x_am_stableCountByLabels n att) then (if (x_am_hasCycle n att) = (x_am_hasCycleBySearch n att) then (true, y1_ac, y1_rj, y1_ro, y1_won, y1_lost) else (false, y1_ac, y1_rj, y1_ro, y1_won, y1_lost)) else (false, y1_ac, y1_rj, y1_ro, y1_won, y1_lost)) else (false, y1_ac, y1_rj, y1_ro, y1_won, y1_lost)))
set_option maxRecDepth 100000 in
set_option maxHeartbeats 8000000 in
theorem e_am_isConsistent {g : q_G} {h : q_H} {d : Nat} {hs : Bool} {se : Int32} {sf : Int32} (sam : z_Am h 100 hs se sf) {n : Nat} {id : Nat → Int32} {wt : Nat → Int32} {ag : Nat → Int32} {tg : Nat → Int32} {att : Nat → Int32} {ni : Int32} {dy : Int32} {mn : Nat} {mv : Nat → Int32} {en : Int32} {wo : Int32} {br : Int32} (sst : z_S2 h 101 n id wt ag tg att ni dy mn mv en wo br) {ac : Int32} {rj : Int32} {ro : Nat → Int32} (slb : z_Lb h 199 ac rj ro) {won : Nat → Int32} {lost : Nat → Int32} (sga : z_Ga h 201 won lost) {pf : Nat → Int32} {cv : Nat → Int32} {sc : Nat} (sex : z_Ex h 204 pf cv sc)     (hd : 24 ≤ d) : q_Spec g mX10_isConsistent d 0 0 [.ref (100)] h (q_chg (.inl (some (.int (z_b (x_am_isConsistent n att ro won lost).1)))) (fun h1 => z_Am h1 100 hs se sf ∧ z_S2 h1 101 n id wt ag tg att ni dy mn mv en wo br ∧ z_Lb h1 199 ((x_am_isConsistent n att ro won lost).2.1) ((x_am_isConsistent n att ro won lost).2.2.1) ((x_am_isConsistent n att ro won lost).2.2.2.1) ∧ z_Ga h1 201 ((x_am_isConsistent n att ro won lost).2.2.2.2.1) ((x_am_isConsistent n att ro won lost).2.2.2.2.2) ∧ z_Ex h1 204 pf cv sc ∧ q_same h h1 199 8)) := by
  have hb_st_n := sst.bn
  have hb_st_mn := sst.bmn
  have hb_ex_sc := sex.bsc
  have ho_st_n := sst.bn
  have ho_st_mn := sst.bmn
  have ho_ex_sc := sex.bsc
  have p0 : q_same h h 199 8 := q_same.rfl'
  refine q_enter (by decide +kernel) rfl rfl (Nat.le_of_ble_eq_true rfl) (fun hz => ?_)
  change q_W _ _ _ _ _ _ _ _ _ [.ref (100)] [] _
  refine q_aload_n (by first | assumption | omega | decide | (rw [q_R0e]; omega)) dX10_isConsistent_0 rfl ?_
  rcases x1 : x_am_labelsAgreeWithGame n att ro won lost with ⟨v1, y1_ac, y1_rj, y1_ro, y1_won, y1_lost⟩
  have e9 := e_am_labelsAgreeWithGame (g := g) (h := h) (d := d - 1) sam sst slb sga (by omega)
  rw [x1] at e9
  refine q_invV (mc' := 0) (ms' := 0) (d' := d - 1) (as := []) dX10_isConsistent_1 kM_X10_labelsAgreeWithGame kL_X10_289 kI_X10_labelsAgreeWithGame kS_X10_labelsAgreeWithGame rfl (kC_X10.1) sam.c0 rfl rfl (Nat.le_of_ble_eq_true rfl) (by omega) (by decide) (by omega) (by omega) (e9) (q_kC (fun h2 hB => ?_)) q_xC
  obtain ⟨t2_0, t2_1, t2_2, t2_3, pp2⟩ := hB
  have sam2 := t2_0
  have sst2 := t2_1
  have slb2 := t2_2
  have sga2 := t2_3
  have sex2 := sex.keep pp2 (by omega)
  have p2 := p0.trans (pp2.wide (by omega) (by omega))
  change q_W _ _ _ _ _ _ _ _ 4 [.ref (100)] [.int (z_b (v1))] _
  refine q_if_eq 33 dX10_isConsistent_4 (by decide) (fun b4 => ?_) (fun b4 => ?_)
  · have b4 := z_b0n b4
    refine q_iconst (v := 0) dX10_isConsistent_33 rfl ?_
    have hE : x_am_isConsistent n att ro won lost = (false, y1_ac, y1_rj, y1_ro, y1_won, y1_lost) := by simp only [x_am_isConsistent, x1, if_neg b4]
    rw [hE]
    exact q_ireturn dX10_isConsistent_34 rfl rfl (by omega) (by omega) ⟨rfl, sam2, sst2, slb2, sga2, sex2, p2⟩
  · have b4 := z_b1 b4
    refine q_aload_n (by first | assumption | omega | decide | (rw [q_R0e]; omega)) dX10_isConsistent_7 rfl ?_
    refine q_invV (mc' := 0) (ms' := 0) (d' := d - 1) (as := []) dX10_isConsistent_8 kM_X10_stableCount kL_X10_292 kI_X10_stableCount kS_X10_stableCount rfl (kC_X10.1) sam2.c0 rfl rfl (Nat.le_of_ble_eq_true rfl) (by omega) (by decide) (by omega) (by omega) (e_am_stableCount (d := d - 1) sam2 sst2 sex2 (by omega)) (q_kR ?_) q_xR
    change q_W _ _ _ _ _ _ _ _ 11 [.ref (100)] [.int (x_am_stableCount n att)] _
    refine q_aload_n (by first | assumption | omega | decide | (rw [q_R0e]; omega)) dX10_isConsistent_11 rfl ?_
    refine q_invV (mc' := 0) (ms' := 0) (d' := d - 1) (as := []) dX10_isConsistent_12 kM_X10_stableCountByLabels kL_X10_295 kI_X10_stableCountByLabels kS_X10_stableCountByLabels rfl (kC_X10.1) sam2.c0 rfl rfl (Nat.le_of_ble_eq_true rfl) (by omega) (by decide) (by omega) (by omega) (e_am_stableCountByLabels (d := d - 1) sam2 sst2 sex2 (by omega)) (q_kR ?_) q_xR
    change q_W _ _ _ _ _ _ _ _ 15 [.ref (100)] [.int (x_am_stableCountByLabels n att), .int (x_am_stableCount n att)] _
    refine q_icmp_ne 33 dX10_isConsistent_15 (by decide) (fun b15 => ?_) (fun b15 => ?_)
    · refine q_iconst (v := 0) dX10_isConsistent_33 rfl ?_
      have hE : x_am_isConsistent n att ro won lost = (false, y1_ac, y1_rj, y1_ro, y1_won, y1_lost) := by simp only [x_am_isConsistent, x1, if_pos b4, if_neg b15]
      rw [hE]
      exact q_ireturn dX10_isConsistent_34 rfl rfl (by omega) (by omega) ⟨rfl, sam2, sst2, slb2, sga2, sex2, p2⟩
    · refine q_aload_n (by first | assumption | omega | decide | (rw [q_R0e]; omega)) dX10_isConsistent_18 rfl ?_
      refine q_invV (mc' := 0) (ms' := 0) (d' := d - 1) (as := []) dX10_isConsistent_19 kM_X10_hasCycle kL_X10_298 kI_X10_hasCycle kS_X10_hasCycle rfl (kC_X10.1) sam2.c0 rfl rfl (Nat.le_of_ble_eq_true rfl) (by omega) (by decide) (by omega) (by omega) (e_am_hasCycle (d := d - 1) sam2 sst2 (by omega)) (q_kR ?_) q_xR
      change q_W _ _ _ _ _ _ _ _ 22 [.ref (100)] [.int (z_b (x_am_hasCycle n att))] _
      refine q_aload_n (by first | assumption | omega | decide | (rw [q_R0e]; omega)) dX10_isConsistent_22 rfl ?_
      refine q_invV (mc' := 0) (ms' := 0) (d' := d - 1) (as := []) dX10_isConsistent_23 kM_X10_hasCycleBySearch kL_X10_301 kI_X10_hasCycleBySearch kS_X10_hasCycleBySearch rfl (kC_X10.1) sam2.c0 rfl rfl (Nat.le_of_ble_eq_true rfl) (by omega) (by decide) (by omega) (by omega) (e_am_hasCycleBySearch (d := d - 1) sam2 sst2 (by omega)) (q_kR ?_) q_xR
      change q_W _ _ _ _ _ _ _ _ 26 [.ref (100)] [.int (z_b (x_am_hasCycleBySearch n att)), .int (z_b (x_am_hasCycle n att))] _
      refine q_icmp_ne 33 dX10_isConsistent_26 (by decide) (fun b26 => ?_) (fun b26 => ?_)
      · have b26 := z_bbn b26
        refine q_iconst (v := 0) dX10_isConsistent_33 rfl ?_
        have hE : x_am_isConsistent n att ro won lost = (false, y1_ac, y1_rj, y1_ro, y1_won, y1_lost) := by simp only [x_am_isConsistent, x1, if_pos b4, if_pos b15, if_neg b26]
        rw [hE]
        exact q_ireturn dX10_isConsistent_34 rfl rfl (by omega) (by omega) ⟨rfl, sam2, sst2, slb2, sga2, sex2, p2⟩
      · have b26 := z_bb b26
        refine q_iconst (v := 1) dX10_isConsistent_29 rfl ?_
        refine q_goto 34 dX10_isConsistent_30 (by decide) ?_
        have hE : x_am_isConsistent n att ro won lost = (true, y1_ac, y1_rj, y1_ro, y1_won, y1_lost) := by simp only [x_am_isConsistent, x1, if_pos b4, if_pos b15, if_pos b26]
        rw [hE]
        exact q_ireturn dX10_isConsistent_34 rfl rfl (by omega) (by omega) ⟨rfl, sam2, sst2, slb2, sga2, sex2, p2⟩
