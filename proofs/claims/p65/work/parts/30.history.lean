theorem z_S2t.c0 {h : q_H} {b : Nat} {s : ZS} (t : z_S2t h b s) : h.2 b = some (.inr (10, [.ref (b + 1), .ref (b + 2), .ref (b + 3), .ref (b + 4), .ref (b + 5), .ref (b + 6), .int (nI s.1), .int s.2.2.2.2.2.2.1, .int s.2.2.2.2.2.2.2.1])) := z_S2.c0 t
def z_updR (rw : Nat → ZS) (k : Nat) (x : ZS) : Nat → ZS := fun r => if r = k then x else rw r
/-- the history: at 125, its rows at 126, their States from 127 on -/
def z_Hs (h : q_H) (_b nx kp : Nat) (rw : Nat → ZS) : Prop :=
  199 ≤ h.1 ∧ nx ≤ 8 ∧ kp ≤ 8 ∧ h.2 125 = some (.inr (7, [.ref 126, .int (nI nx), .int (nI kp)])) ∧ h.2 126 = some (.inl (6, 9, .inr (.inr (.inr (.inr (fun j => some (127 + 8 * j))))))) ∧ ∀ r, r < 9 → z_S2t h (127 + 8 * r) (rw r)
section HS
variable {h h1 : q_H} {b nx kp : Nat} {rw : Nat → ZS}
theorem z_Hs.s0 (s : z_Hs h b nx kp rw) : 199 ≤ h.1 := s.1
theorem z_Hs.bnx (s : z_Hs h b nx kp rw) : nx ≤ 8 := s.2.1
theorem z_Hs.bkp (s : z_Hs h b nx kp rw) : kp ≤ 8 := s.2.2.1
theorem z_Hs.c0 (s : z_Hs h b nx kp rw) : h.2 125 = some (.inr (7, [.ref 126, .int (nI nx), .int (nI kp)])) := s.2.2.2.1
theorem z_Hs.c1 (s : z_Hs h b nx kp rw) : h.2 126 = some (.inl (6, 9, .inr (.inr (.inr (.inr (fun j => some (127 + 8 * j))))))) := s.2.2.2.2.1
theorem z_Hs.row (s : z_Hs h b nx kp rw) {r : Nat} (hr : r < 9) : z_S2t h (127 + 8 * r) (rw r) := s.2.2.2.2.2 r hr
theorem z_Hs.keep (s : z_Hs h b nx kp rw) {b1 k1 : Nat} (q : q_same h h1 b1 k1) (hx : 125 + 74 ≤ b1 ∨ b1 + k1 ≤ 125) : z_Hs h1 b nx kp rw := by
  obtain ⟨w0, w1, w2, w3, w4, w5⟩ := s
  exact ⟨Nat.le_trans w0 q.1, w1, w2, (q.2 _ (by omega) (by omega)).trans w3, (q.2 _ (by omega) (by omega)).trans w4, fun r hr => (w5 r hr).keep q (by omega)⟩
theorem z_Hs.put0 (s : z_Hs h b nx kp rw) {nx' kp' : Nat} (hbnx : nx' ≤ 8) (hbkp : kp' ≤ 8) : z_Hs (q_set h 125 (.inr (7, [.ref 126, .int (nI nx'), .int (nI kp')]))) b nx' kp' rw := by
  obtain ⟨w0, w1, w2, w3, w4, w5⟩ := s
  exact ⟨w0, hbnx, hbkp, q_set_eq, (q_set_ne (by omega)).trans w4, fun r hr => (w5 r hr).keep (q_same.set (a := 125) (k := 1) (Nat.le_refl _) (by omega)) (by omega)⟩
theorem z_Hs.ofrow (s : z_Hs h b nx kp rw) {k : Nat} {x : ZS} (t : z_S2t h1 (127 + 8 * k) x) (q : q_same h h1 (127 + 8 * k) 8) (hk : k < 9) : z_Hs h1 b nx kp (z_updR rw k x) := by
  obtain ⟨w0, w1, w2, w3, w4, w5⟩ := s
  refine ⟨Nat.le_trans w0 q.1, w1, w2, (q.2 _ (by omega) (by omega)).trans w3, (q.2 _ (by omega) (by omega)).trans w4, fun r hr => ?_⟩
  unfold z_updR
  by_cases e : r = k
  · subst e
    rw [if_pos rfl]
    exact t
  · rw [if_neg e]
    exact (w5 r hr).keep q (by omega)
end HS
def x_hi_draft (nx : Nat) : Nat := 127 + 8 * nx
set_option maxRecDepth 100000 in
set_option maxHeartbeats 8000000 in
theorem e_hi_draft {g : q_G} {h : q_H} {d : Nat} {nx : Nat} {kp : Nat} {rw : Nat → ZS} (shs : z_Hs h 125 nx kp rw)     (hd : 0 ≤ d) : q_Spec g mX5_draft d 0 0 [.ref (125)] h (q_ret ((some (.ref (x_hi_draft nx)))) h) := by
  have hb_hs_nx := shs.bnx
  have hb_hs_kp := shs.bkp
  have ho_hs_nx := shs.bnx
  have ho_hs_kp := shs.bkp
  refine q_enter (by decide +kernel) rfl rfl (Nat.le_of_ble_eq_true rfl) (fun hz => ?_)
  change q_W _ _ _ _ _ _ _ _ _ [.ref (125)] [] _
  refine q_aload_n (by first | assumption | omega | decide | (rw [q_R0e]; omega)) dX5_draft_0 rfl ?_
  refine q_getf (k := 0) (v := .ref (126)) kC_X5 kL_X5_11 rfl (by decide) dX5_draft_1 shs.c0 rfl ?_
  refine q_aload_n (by first | assumption | omega | decide | (rw [q_R0e]; omega)) dX5_draft_4 rfl ?_
  refine q_getf (k := 1) (v := .int (nI (nx))) kC_X5 kL_X5_17 rfl (by decide) dX5_draft_5 shs.c0 rfl ?_
  refine q_aaldN (j := nx) (r := 127 + 8 * nx) dX5_draft_8 shs.c1 (by omega) (by decide) rfl (by omega) ?_
  change q_W _ _ _ _ _ _ _ _ 9 [.ref (125)] [.ref (127 + 8 * nx)] _
  have hE : x_hi_draft nx = 127 + 8 * nx := by simp only [x_hi_draft]
  rw [hE]
  exact q_areturn (by first | assumption | omega | decide | (rw [q_R0e]; omega)) dX5_draft_9 rfl (Or.inl ⟨_, rfl⟩) (by omega) (by omega) ⟨rfl, rfl⟩
def x_hi_begin (nx : Nat) (rw : Nat → ZS) (n : Nat) (id : Nat → Int32) (wt : Nat → Int32) (ag : Nat → Int32) (tg : Nat → Int32) (att : Nat → Int32) (ni : Int32) (dy : Int32) (mn : Nat) (mv : Nat → Int32) (en : Int32) (wo : Int32) (br : Int32) : (Nat → ZS) := (match x_st_copyFrom ((rw nx).2.1) ((rw nx).2.2.1) ((rw nx).2.2.2.1) ((rw nx).2.2.2.2.1) ((rw nx).2.2.2.2.2.1) ((rw nx).2.2.2.2.2.2.2.2.2.1) n id wt ag tg att ni dy mn mv en wo br with | (y1_n, y1_id, y1_wt, y1_ag, y1_tg, y1_att, y1_ni, y1_dy, y1_mn, y1_mv, y1_en, y1_wo, y1_br) => (z_updR rw nx (y1_n, y1_id, y1_wt, y1_ag, y1_tg, y1_att, y1_ni, y1_dy, y1_mn, y1_mv, y1_en, y1_wo, y1_br)))
set_option maxRecDepth 100000 in
set_option maxHeartbeats 8000000 in
theorem e_hi_begin {g : q_G} {h : q_H} {d : Nat} {nx : Nat} {kp : Nat} {rw : Nat → ZS} (shs : z_Hs h 125 nx kp rw) {n : Nat} {id : Nat → Int32} {wt : Nat → Int32} {ag : Nat → Int32} {tg : Nat → Int32} {att : Nat → Int32} {ni : Int32} {dy : Int32} {mn : Nat} {mv : Nat → Int32} {en : Int32} {wo : Int32} {br : Int32} (sst : z_S2 h 101 n id wt ag tg att ni dy mn mv en wo br)     (hd : 3 ≤ d) : q_Spec g mX5_begin d 0 0 [.ref (125), .ref (101)] h (q_chg (.inl none) (fun h1 => z_Hs h1 125 nx kp (x_hi_begin nx rw n id wt ag tg att ni dy mn mv en wo br) ∧ z_S2 h1 101 n id wt ag tg att ni dy mn mv en wo br ∧ q_same h h1 125 74)) := by
  have hb_hs_nx := shs.bnx
  have hb_hs_kp := shs.bkp
  have hb_st_n := sst.bn
  have hb_st_mn := sst.bmn
  have ho_hs_nx := shs.bnx
  have ho_hs_kp := shs.bkp
  have ho_st_n := sst.bn
  have ho_st_mn := sst.bmn
  have p0 : q_same h h 125 74 := q_same.rfl'
  refine q_enter (by decide +kernel) rfl rfl (Nat.le_of_ble_eq_true rfl) (fun hz => ?_)
  change q_W _ _ _ _ _ _ _ _ _ [.ref (125), .ref (101)] [] _
  refine q_aload_n (by first | assumption | omega | decide | (rw [q_R0e]; omega)) dX5_begin_0 rfl ?_
  refine q_invV (mc' := 0) (ms' := 0) (d' := d - 1) (as := []) dX5_begin_1 kM_X5_draft kL_X5_25 kI_X5_draft kS_X5_draft rfl (kC_X5.1) shs.c0 rfl rfl (Nat.le_of_ble_eq_true rfl) (by omega) (by decide) (by omega) (by omega) (e_hi_draft (d := d - 1) shs (by omega)) (q_kR ?_) q_xR
  change q_W _ _ _ _ _ _ _ _ 4 [.ref (125), .ref (101)] [.ref (127 + 8 * nx)] _
  refine q_aload_n (by first | assumption | omega | decide | (rw [q_R0e]; omega)) dX5_begin_4 rfl ?_
  rcases x1 : x_st_copyFrom ((rw nx).2.1) ((rw nx).2.2.1) ((rw nx).2.2.2.1) ((rw nx).2.2.2.2.1) ((rw nx).2.2.2.2.2.1) ((rw nx).2.2.2.2.2.2.2.2.2.1) n id wt ag tg att ni dy mn mv en wo br with ⟨y1_n, y1_id, y1_wt, y1_ag, y1_tg, y1_att, y1_ni, y1_dy, y1_mn, y1_mv, y1_en, y1_wo, y1_br⟩
  have e9 := e_st_copyFrom (g := g) (h := h) (d := d - 1) (shs.row (r := nx) (by first | omega | (split <;> omega))) sst (by omega) (by omega)
  rw [x1] at e9
  refine q_invV (mc' := 0) (ms' := 0) (d' := d - 1) (as := [.ref (101)]) dX5_begin_5 kM_X8_copyFrom kL_X5_29 kI_X8_copyFrom kS_X8_copyFrom rfl (kC_X8.1) (z_S2.c0 (shs.row (r := nx) (by first | omega | (split <;> omega)))) rfl rfl (Nat.le_of_ble_eq_true rfl) (by omega) (by decide) (by omega) (by omega) (e9) (q_kC (fun h2 hB => ?_)) q_xC
  obtain ⟨t2_0, t2_1, pp2⟩ := hB
  have shs2 := z_Hs.ofrow shs t2_0 pp2 (by omega)
  have sst2 := t2_1
  have p2 := p0.trans (pp2.wide (by omega) (by omega))
  have hb_hs_nx := shs2.bnx
  have hb_hs_kp := shs2.bkp
  change q_W _ _ _ _ _ _ _ _ 8 [.ref (125), .ref (101)] [] _
  have hE : x_hi_begin nx rw n id wt ag tg att ni dy mn mv en wo br = (z_updR rw nx (y1_n, y1_id, y1_wt, y1_ag, y1_tg, y1_att, y1_ni, y1_dy, y1_mn, y1_mv, y1_en, y1_wo, y1_br)) := by simp only [x_hi_begin, x1]
  rw [hE]
  exact q_return dX5_begin_8 rfl (by omega) (by omega) ⟨rfl, shs2, sst2, p2⟩
def x_hi_keep (nx : Nat) (kp : Nat) : (Nat) × (Nat) := (if nx = 8 then (0, (if kp + 1 < 8 then kp + 1 else 8)) else (nx + 1, (if kp + 1 < 8 then kp + 1 else 8)))
set_option maxRecDepth 100000 in
set_option maxHeartbeats 8000000 in
theorem e_hi_keep {g : q_G} {h : q_H} {d : Nat} {nx : Nat} {kp : Nat} {rw : Nat → ZS} (shs : z_Hs h 125 nx kp rw)     (hd : 1 ≤ d) : q_Spec g mX5_keep d 0 0 [.ref (125)] h (q_chg (.inl none) (fun h1 => z_Hs h1 125 ((x_hi_keep nx kp).1) ((x_hi_keep nx kp).2) rw ∧ q_same h h1 125 74)) := by
  have hb_hs_nx := shs.bnx
  have hb_hs_kp := shs.bkp
  have ho_hs_nx := shs.bnx
  have ho_hs_kp := shs.bkp
  have p0 : q_same h h 125 74 := q_same.rfl'
  refine q_enter (by decide +kernel) rfl rfl (Nat.le_of_ble_eq_true rfl) (fun hz => ?_)
  change q_W _ _ _ _ _ _ _ _ _ [.ref (125)] [] _
  refine q_aload_n (by first | assumption | omega | decide | (rw [q_R0e]; omega)) dX5_keep_0 rfl ?_
  refine q_aload_n (by first | assumption | omega | decide | (rw [q_R0e]; omega)) dX5_keep_1 rfl ?_
  refine q_getf (k := 1) (v := .int (nI (nx))) kC_X5 kL_X5_17 rfl (by decide) dX5_keep_2 shs.c0 rfl ?_
  refine q_bipush (v := 8) dX5_keep_5 rfl ?_
  refine q_icmp_ne 14 dX5_keep_7 (by decide) (fun b7 => ?_) (fun b7 => ?_)
  · have b7 : ¬ (nx = 8) := fun q => b7 ((nI_eq (a := nx) (b := 8) (by omega) (by omega)).mpr q)
    refine q_aload_n (by first | assumption | omega | decide | (rw [q_R0e]; omega)) dX5_keep_14 rfl ?_
    refine q_getf (k := 1) (v := .int (nI (nx))) kC_X5 kL_X5_17 rfl (by decide) dX5_keep_15 shs.c0 rfl ?_
    refine q_iconst (v := 1) dX5_keep_18 rfl ?_
    refine q_iaddN (a := nx) (b := 1) dX5_keep_19 ?_
    change q_W _ _ _ _ _ _ _ _ _ _ [.int (nI (nx + 1)), .ref (125)] _
    refine q_putf (k := 1) kC_X5 kL_X5_17 rfl (by decide) rfl dX5_keep_20 shs.c0 (Nat.le_of_ble_eq_true rfl) ⟨rfl, rfl⟩ rfl ?_
    refine z_genW (B := fun H => z_Hs H 125 (nx + 1) kp rw ∧ q_same h H 125 74) ⟨z_Hs.put0 shs (nx' := nx + 1) (kp' := kp) (hbnx := by first | omega | (split <;> omega)) (hbkp := by first | omega | (split <;> omega)), p0.trans (q_same.set (by omega) (by omega))⟩ (fun h1 hB => ?_)
    obtain ⟨shs1, p1⟩ := hB
    have hb_hs_nx := shs1.bnx
    have hb_hs_kp := shs1.bkp
    refine q_aload_n (by first | assumption | omega | decide | (rw [q_R0e]; omega)) dX5_keep_23 rfl ?_
    refine q_bipush (v := 8) dX5_keep_24 rfl ?_
    refine q_aload_n (by first | assumption | omega | decide | (rw [q_R0e]; omega)) dX5_keep_26 rfl ?_
    refine q_getf (k := 2) (v := .int (nI (kp))) kC_X5 kL_X5_21 rfl (by decide) dX5_keep_27 shs1.c0 rfl ?_
    refine q_iconst (v := 1) dX5_keep_30 rfl ?_
    refine q_iaddN (a := kp) (b := 1) dX5_keep_31 ?_
    change q_W _ _ _ _ _ _ _ _ _ _ [.int (nI (kp + 1)), .int (8), .ref (125)] _
    refine q_mmin kL_X5_33 kT_J9_min_7cf53 (kM_J9_min_7cf53.2.2.2.1) rfl dX5_keep_32 (Nat.le_of_ble_eq_true rfl) (by omega) (by omega) (by omega) ?_
    change q_W _ _ _ _ _ _ _ _ _ _ (.int (if nI (kp + 1) < nI (8) then nI (kp + 1) else nI (8)) :: [.ref (125)]) _
    rw [z_nite (by omega) (by omega)]
    change q_W _ _ _ _ _ _ _ _ _ [.ref (125)] [.int (nI ((if kp + 1 < 8 then kp + 1 else 8))), .ref (125)] _
    refine q_putf (k := 2) kC_X5 kL_X5_21 rfl (by decide) rfl dX5_keep_35 shs1.c0 (Nat.le_of_ble_eq_true rfl) ⟨rfl, rfl⟩ rfl ?_
    refine z_genW (B := fun H => z_Hs H 125 (nx + 1) (if kp + 1 < 8 then kp + 1 else 8) rw ∧ q_same h H 125 74) ⟨z_Hs.put0 shs1 (nx' := nx + 1) (kp' := (if kp + 1 < 8 then kp + 1 else 8)) (hbnx := by first | omega | (split <;> omega)) (hbkp := by first | omega | (split <;> omega)), p1.trans (q_same.set (by omega) (by omega))⟩ (fun h2 hB => ?_)
    obtain ⟨shs2, p2⟩ := hB
    have hb_hs_nx := shs2.bnx
    have hb_hs_kp := shs2.bkp
    have hE : x_hi_keep nx kp = (nx + 1, (if kp + 1 < 8 then kp + 1 else 8)) := by simp only [x_hi_keep, if_neg b7]
    rw [hE]
    exact q_return dX5_keep_38 rfl (by omega) (by omega) ⟨rfl, shs2, p2⟩
  · have b7 := (nI_eq (a := nx) (b := 8) (by omega) (by omega)).mp b7
    refine q_iconst (v := 0) dX5_keep_10 rfl ?_
    refine q_goto 20 dX5_keep_11 (by decide) ?_
    refine q_putf (k := 1) kC_X5 kL_X5_17 rfl (by decide) rfl dX5_keep_20 shs.c0 (Nat.le_of_ble_eq_true rfl) ⟨rfl, rfl⟩ rfl ?_
    refine z_genW (B := fun H => z_Hs H 125 0 kp rw ∧ q_same h H 125 74) ⟨z_Hs.put0 shs (nx' := 0) (kp' := kp) (hbnx := by first | omega | (split <;> omega)) (hbkp := by first | omega | (split <;> omega)), p0.trans (q_same.set (by omega) (by omega))⟩ (fun h3 hB => ?_)
    obtain ⟨shs3, p3⟩ := hB
    have hb_hs_kp := shs3.bkp
    refine q_aload_n (by first | assumption | omega | decide | (rw [q_R0e]; omega)) dX5_keep_23 rfl ?_
    refine q_bipush (v := 8) dX5_keep_24 rfl ?_
    refine q_aload_n (by first | assumption | omega | decide | (rw [q_R0e]; omega)) dX5_keep_26 rfl ?_
    refine q_getf (k := 2) (v := .int (nI (kp))) kC_X5 kL_X5_21 rfl (by decide) dX5_keep_27 shs3.c0 rfl ?_
    refine q_iconst (v := 1) dX5_keep_30 rfl ?_
    refine q_iaddN (a := kp) (b := 1) dX5_keep_31 ?_
    change q_W _ _ _ _ _ _ _ _ _ _ [.int (nI (kp + 1)), .int (8), .ref (125)] _
    refine q_mmin kL_X5_33 kT_J9_min_7cf53 (kM_J9_min_7cf53.2.2.2.1) rfl dX5_keep_32 (Nat.le_of_ble_eq_true rfl) (by omega) (by omega) (by omega) ?_
    change q_W _ _ _ _ _ _ _ _ _ _ (.int (if nI (kp + 1) < nI (8) then nI (kp + 1) else nI (8)) :: [.ref (125)]) _
    rw [z_nite (by omega) (by omega)]
    change q_W _ _ _ _ _ _ _ _ _ [.ref (125)] [.int (nI ((if kp + 1 < 8 then kp + 1 else 8))), .ref (125)] _
    refine q_putf (k := 2) kC_X5 kL_X5_21 rfl (by decide) rfl dX5_keep_35 shs3.c0 (Nat.le_of_ble_eq_true rfl) ⟨rfl, rfl⟩ rfl ?_
    refine z_genW (B := fun H => z_Hs H 125 0 (if kp + 1 < 8 then kp + 1 else 8) rw ∧ q_same h H 125 74) ⟨z_Hs.put0 shs3 (nx' := 0) (kp' := (if kp + 1 < 8 then kp + 1 else 8)) (hbnx := by first | omega | (split <;> omega)) (hbkp := by first | omega | (split <;> omega)), p3.trans (q_same.set (by omega) (by omega))⟩ (fun h4 hB => ?_)
    obtain ⟨shs4, p4⟩ := hB
    have hb_hs_kp := shs4.bkp
    have hE : x_hi_keep nx kp = (0, (if kp + 1 < 8 then kp + 1 else 8)) := by simp only [x_hi_keep, if_pos b7]
    rw [hE]
    exact q_return dX5_keep_38 rfl (by omega) (by omega) ⟨rfl, shs4, p4⟩
def x_hi_takeLatest (nx : Nat) (kp : Nat) : (Nat) × (Nat) × (Nat) := (if nx = 0 then (127 + 8 * 8, 8, kp - 1) else (127 + 8 * (nx - 1), nx - 1, kp - 1))
def x_hi_prev (nx : Nat) : Nat := if nx = 0 then 8 else nx - 1
theorem x_hi_prev_le {nx : Nat} (h : nx ≤ 8) : x_hi_prev nx ≤ 8 := by
  unfold x_hi_prev
  split <;> omega
def x_hi_forget  : (Nat) := (0)
def z_Am (h : q_H) (b : Nat) (hs : Bool) (se : Int32) (sf : Int32) : Prop :=
  q_R0 ≤ b ∧
  b + 1 ≤ h.1 ∧
  h.2 (b) = some (.inr (11, [.ref (101), .ref (109), .ref (117), .ref (125), .ref (199), .ref (201), .ref (204), .ref (207), .ref (211), .ref (213), .int (z_b (hs)), .int (se), .int (sf)]))
theorem z_Am.r0 {h : q_H} {b : Nat} {hs : Bool} {se : Int32} {sf : Int32} (s : z_Am h b hs se sf) : q_R0 ≤ b := s.1
theorem z_Am.s0 {h : q_H} {b : Nat} {hs : Bool} {se : Int32} {sf : Int32} (s : z_Am h b hs se sf) : b + 1 ≤ h.1 := s.2.1
theorem z_Am.c0 {h : q_H} {b : Nat} {hs : Bool} {se : Int32} {sf : Int32} (s : z_Am h b hs se sf) : h.2 (b) = some (.inr (11, [.ref (101), .ref (109), .ref (117), .ref (125), .ref (199), .ref (201), .ref (204), .ref (207), .ref (211), .ref (213), .int (z_b (hs)), .int (se), .int (sf)])) := s.2.2
theorem z_Am.keep {h1 : q_H} {b1 k1 : Nat} {h : q_H} {b : Nat} {hs : Bool} {se : Int32} {sf : Int32} (s : z_Am h b hs se sf) (q : q_same h h1 b1 k1) (hx : b + 1 ≤ b1 ∨ b1 + k1 ≤ b) : z_Am h1 b hs se sf := by
  obtain ⟨w0, w1, w2⟩ := s
  exact ⟨w0, Nat.le_trans w1 q.1, (q.2 _ (by omega) (by omega)).trans w2⟩
theorem z_Am.put0 {h : q_H} {b : Nat} {hs : Bool} {se : Int32} {sf : Int32} (s : z_Am h b hs se sf) {hs' : Bool} {se' : Int32} {sf' : Int32}   : z_Am (q_set h (b) (.inr (11, [.ref (101), .ref (109), .ref (117), .ref (125), .ref (199), .ref (201), .ref (204), .ref (207), .ref (211), .ref (213), .int (z_b (hs')), .int (se'), .int (sf')]))) b hs' se' sf' := by
  obtain ⟨w0, w1, w2⟩ := s
  exact ⟨w0, w1, q_set_eq⟩
