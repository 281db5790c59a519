/-- the contents of a State: n, ids, weights, ages, targets, attackers, next id, day, moves' number, moves, ended, won, broken off -/
abbrev ZS : Type := Nat × (Nat → Int32) × (Nat → Int32) × (Nat → Int32) × (Nat → Int32) × (Nat → Int32) × Int32 × Int32 × Nat × (Nat → Int32) × Int32 × Int32 × Int32
def z_S2t (h : q_H) (b : Nat) (s : ZS) : Prop := z_S2 h b s.1 s.2.1 s.2.2.1 s.2.2.2.1 s.2.2.2.2.1 s.2.2.2.2.2.1 s.2.2.2.2.2.2.1 s.2.2.2.2.2.2.2.1 s.2.2.2.2.2.2.2.2.1 s.2.2.2.2.2.2.2.2.2.1 s.2.2.2.2.2.2.2.2.2.2.1 s.2.2.2.2.2.2.2.2.2.2.2.1 s.2.2.2.2.2.2.2.2.2.2.2.2
theorem z_S2t.keep {h h1 : q_H} {b b1 k1 : Nat} {s : ZS} (t : z_S2t h b s) (q : q_same h h1 b1 k1) (hx : b + 8 ≤ b1 ∨ b1 + k1 ≤ b) : z_S2t h1 b s := z_S2.keep t q hx
def x_ordinal (k : Nat) : Nat := k
set_option maxRecDepth 100000 in
set_option maxHeartbeats 8000000 in
theorem e_ordinal {g : q_G} {h : q_H} {d : Nat}   (k : Nat) (hk : k < 11)  (hd : 0 ≤ d) : q_Spec g mJx29ce0_ordinal_8abf5 d 0 0 [.ref (3 + k)] h (q_ret ((some (.int (nI (x_ordinal k))))) h) := by
  refine q_enter (by decide +kernel) rfl rfl (Nat.le_of_ble_eq_true rfl) (fun hz => ?_)
  change q_W _ _ _ _ _ _ _ _ _ [.ref (3 + k)] [] _
  refine q_aload_nK (by omega) dJx29ce0_ordinal_8abf5_0 rfl ?_
  refine q_getold (i := 3 + k) (v := .int (nI (k))) (by unfold q_R0; omega) kL_Jx29ce0_7 rfl (q_ordinalF (k := k) (by omega)) dJx29ce0_ordinal_8abf5_1 ?_
  change q_W _ _ _ _ _ _ _ _ 4 [.ref (3 + k)] [.int (nI (k))] _
  have hE : x_ordinal k = k := by simp only [x_ordinal]
  rw [hE]
  exact q_ireturn dJx29ce0_ordinal_8abf5_4 rfl rfl (by omega) (by omega) ⟨rfl, rfl⟩
def x_st_apply0 (n : Nat) (id : Nat → Int32) (wt : Nat → Int32) (ag : Nat → Int32) (tg : Nat → Int32) (att : Nat → Int32) (ni : Int32) (xa : Int32) : (Int32 ⊕ String) × (Nat) × (Nat → Int32) × (Nat → Int32) × (Nat → Int32) × (Nat → Int32) × (Nat → Int32) × (Int32) := (match x_st_add n id wt ag tg att ni xa with | ((.inl v1), y1_n, y1_id, y1_wt, y1_ag, y1_tg, y1_att, y1_ni) => (.inl v1, y1_n, y1_id, y1_wt, y1_ag, y1_tg, y1_att, y1_ni) | ((.inr e1), y1_n, y1_id, y1_wt, y1_ag, y1_tg, y1_att, y1_ni) => (.inr e1, y1_n, y1_id, y1_wt, y1_ag, y1_tg, y1_att, y1_ni))
set_option maxRecDepth 100000 in
set_option maxHeartbeats 8000000 in
theorem e_st_apply0 {g : q_G} {h : q_H} {d : Nat} {a : Nat} {n : Nat} {id : Nat → Int32} {wt : Nat → Int32} {ag : Nat → Int32} {tg : Nat → Int32} {att : Nat → Int32} {ni : Int32} {dy : Int32} {mn : Nat} {mv : Nat → Int32} {en : Int32} {wo : Int32} {br : Int32} (sst : z_S2 h a n id wt ag tg att ni dy mn mv en wo br)  (xa : Int32) (xb : Int32)   (hd : 9 ≤ d) : q_Spec g mX8_apply d 4 24 [.ref (a), .ref (3), .int (xa), .int (xb)] h (q_chg (q_oI (x_st_apply0 n id wt ag tg att ni xa).1) (fun h1 => z_S2 h1 a ((x_st_apply0 n id wt ag tg att ni xa).2.1) ((x_st_apply0 n id wt ag tg att ni xa).2.2.1) ((x_st_apply0 n id wt ag tg att ni xa).2.2.2.1) ((x_st_apply0 n id wt ag tg att ni xa).2.2.2.2.1) ((x_st_apply0 n id wt ag tg att ni xa).2.2.2.2.2.1) ((x_st_apply0 n id wt ag tg att ni xa).2.2.2.2.2.2.1) ((x_st_apply0 n id wt ag tg att ni xa).2.2.2.2.2.2.2) dy mn mv en wo br ∧ q_same h h1 a 8)) := by
  have hr_st := sst.r0
  have hb_st_n := sst.bn
  have hb_st_mn := sst.bmn
  have ho_st_n := sst.bn
  have ho_st_mn := sst.bmn
  have p0 : q_same h h a 8 := q_same.rfl'
  refine q_enter (by decide +kernel) rfl rfl (Nat.le_of_ble_eq_true rfl) (fun hz => ?_)
  change q_W _ _ _ _ _ _ _ _ _ [.ref (a), .ref (3), .int (xa), .int (xb)] [] _
  refine q_getstatic (v := .ref (1)) (by simp [q_zs]) kL_X8_54 rfl dX8_apply_0 ?_
  change q_W _ _ _ _ _ _ _ _ 3 [.ref (a), .ref (3), .int (xa), .int (xb)] [.ref (1)] _
  refine q_aload_nK (by omega) dX8_apply_3 rfl ?_
  refine q_invUO (x := ⟨RX9, "ordinal", "()I"⟩) (C := RX9) (i := 3) (mc' := 0) (ms' := 0) (d' := d - 1) (as := []) dX8_apply_4 kM_Jx29ce0_ordinal_8abf5 rfl (by decide) kL_X8_59 kW_1088 kI_Jx29ce0_ordinal_8abf5 kU_2 rfl (by unfold q_R0; omega) (q_verbO (k := 0) (by omega)) rfl rfl (Nat.le_of_ble_eq_true rfl) (by omega) (by decide) (by omega) (by omega) (e_ordinal (d := d - 1) 0 (by omega) (by omega)) (q_kR ?_) q_xR
  change q_W _ _ _ _ _ _ _ _ 7 [.ref (a), .ref (3), .int (xa), .int (xb)] [.int (0), .ref (1)] _
  refine q_taldIN (i := 1) (n := 11) (f := fun j => .int (nI ((j + 1) % 11))) (j := 0) (by decide) dX8_apply_7 rfl (by omega) (by decide) ?_
  change q_W _ _ _ _ _ _ _ _ 8 [.ref (a), .ref (3), .int (xa), .int (xb)] [.int (1)] _
  refine q_tableIn (off := 56) 64 dX8_apply_8 (by decide) (by decide) (by decide) (by decide) ?_
  refine q_aload_n (by first | assumption | omega | decide) dX8_apply_64 rfl ?_
  refine q_iload_n dX8_apply_65 rfl ?_
  rcases x1 : x_st_add n id wt ag tg att ni xa with ⟨v1 | e1, y1_n, y1_id, y1_wt, y1_ag, y1_tg, y1_att, y1_ni⟩
  · have e9 := e_st_add (g := g) (h := h) (d := d - 1) sst xa (by omega)
    rw [x1] at e9
    refine q_invV (mc' := 2) (ms' := 12) (d' := d - 1) (as := [.int (xa)]) dX8_apply_66 kM_X8_add kL_X8_65 kI_X8_add kS_X8_add rfl (kC_X8.1) sst.c0 rfl rfl (Nat.le_of_ble_eq_true rfl) (by omega) (by decide) (by omega) (by omega) (e9) (q_kC (fun h2 hB => ?_)) q_xC
    obtain ⟨t2_0, pp2⟩ := hB
    have sst2 := t2_0
    have p2 := p0.trans (pp2.wide (by omega) (by omega))
    have hb_st_n : y1_n ≤ 8 := sst2.bn
    have hb_st_mn := sst2.bmn
    change q_W _ _ _ _ _ _ _ _ 69 [.ref (a), .ref (3), .int (xa), .int (xb)] [.int (v1)] _
    have hE : x_st_apply0 n id wt ag tg att ni xa = (.inl v1, y1_n, y1_id, y1_wt, y1_ag, y1_tg, y1_att, y1_ni) := by simp only [x_st_apply0, x1]
    rw [hE]
    exact q_ireturn dX8_apply_69 rfl rfl (by omega) (by omega) ⟨rfl, sst2, p2⟩
  · have e9 := e_st_add (g := g) (h := h) (d := d - 1) sst xa (by omega)
    rw [x1] at e9
    refine q_invV (mc' := 2) (ms' := 12) (d' := d - 1) (as := [.int (xa)]) dX8_apply_66 kM_X8_add kL_X8_65 kI_X8_add kS_X8_add rfl (kC_X8.1) sst.c0 rfl rfl (Nat.le_of_ble_eq_true rfl) (by omega) (by decide) (by omega) (by omega) (e9) q_kCx (q_xCx (fun h3 hB => ?_))
    obtain ⟨t3_0, pp3⟩ := hB
    have sst3 := t3_0
    have p3 := p0.trans (pp3.wide (by omega) (by omega))
    have hb_st_n : y1_n ≤ 8 := sst3.bn
    have hb_st_mn := sst3.bmn
    have hE : x_st_apply0 n id wt ag tg att ni xa = (.inr e1, y1_n, y1_id, y1_wt, y1_ag, y1_tg, y1_att, y1_ni) := by simp only [x_st_apply0, x1]
    rw [hE]
    exact q_xout rfl ⟨rfl, sst3, p3⟩ (by omega) (by omega)
def x_st_apply1 (n : Nat) (id : Nat → Int32) (wt : Nat → Int32) (ag : Nat → Int32) (tg : Nat → Int32) (att : Nat → Int32) (mn : Nat) (mv : Nat → Int32) (br : Int32) (xa : Int32) : (Int32 ⊕ String) × (Nat) × (Nat → Int32) × (Nat → Int32) × (Nat → Int32) × (Nat → Int32) × (Nat → Int32) × (Nat) × (Int32) := (match x_st_remove n id wt ag tg att mn mv br xa with | ((.inl v1), y1_n, y1_id, y1_wt, y1_ag, y1_tg, y1_att, y1_mn, y1_br) => (.inl v1, y1_n, y1_id, y1_wt, y1_ag, y1_tg, y1_att, y1_mn, y1_br) | ((.inr e1), y1_n, y1_id, y1_wt, y1_ag, y1_tg, y1_att, y1_mn, y1_br) => (.inr e1, y1_n, y1_id, y1_wt, y1_ag, y1_tg, y1_att, y1_mn, y1_br))
set_option maxRecDepth 100000 in
set_option maxHeartbeats 8000000 in
theorem e_st_apply1 {g : q_G} {h : q_H} {d : Nat} {a : Nat} {n : Nat} {id : Nat → Int32} {wt : Nat → Int32} {ag : Nat → Int32} {tg : Nat → Int32} {att : Nat → Int32} {ni : Int32} {dy : Int32} {mn : Nat} {mv : Nat → Int32} {en : Int32} {wo : Int32} {br : Int32} (sst : z_S2 h a n id wt ag tg att ni dy mn mv en wo br)  (xa : Int32) (xb : Int32)   (hd : 9 ≤ d) : q_Spec g mX8_apply d 4 24 [.ref (a), .ref (4), .int (xa), .int (xb)] h (q_chg (q_oI (x_st_apply1 n id wt ag tg att mn mv br xa).1) (fun h1 => z_S2 h1 a ((x_st_apply1 n id wt ag tg att mn mv br xa).2.1) ((x_st_apply1 n id wt ag tg att mn mv br xa).2.2.1) ((x_st_apply1 n id wt ag tg att mn mv br xa).2.2.2.1) ((x_st_apply1 n id wt ag tg att mn mv br xa).2.2.2.2.1) ((x_st_apply1 n id wt ag tg att mn mv br xa).2.2.2.2.2.1) ((x_st_apply1 n id wt ag tg att mn mv br xa).2.2.2.2.2.2.1) ni dy ((x_st_apply1 n id wt ag tg att mn mv br xa).2.2.2.2.2.2.2.1) mv en wo ((x_st_apply1 n id wt ag tg att mn mv br xa).2.2.2.2.2.2.2.2) ∧ q_same h h1 a 8)) := by
  have hr_st := sst.r0
  have hb_st_n := sst.bn
  have hb_st_mn := sst.bmn
  have ho_st_n := sst.bn
  have ho_st_mn := sst.bmn
  have p0 : q_same h h a 8 := q_same.rfl'
  refine q_enter (by decide +kernel) rfl rfl (Nat.le_of_ble_eq_true rfl) (fun hz => ?_)
  change q_W _ _ _ _ _ _ _ _ _ [.ref (a), .ref (4), .int (xa), .int (xb)] [] _
  refine q_getstatic (v := .ref (1)) (by simp [q_zs]) kL_X8_54 rfl dX8_apply_0 ?_
  change q_W _ _ _ _ _ _ _ _ 3 [.ref (a), .ref (4), .int (xa), .int (xb)] [.ref (1)] _
  refine q_aload_nK (by omega) dX8_apply_3 rfl ?_
  refine q_invUO (x := ⟨RX9, "ordinal", "()I"⟩) (C := RX9) (i := 4) (mc' := 0) (ms' := 0) (d' := d - 1) (as := []) dX8_apply_4 kM_Jx29ce0_ordinal_8abf5 rfl (by decide) kL_X8_59 kW_1088 kI_Jx29ce0_ordinal_8abf5 kU_2 rfl (by unfold q_R0; omega) (q_verbO (k := 1) (by omega)) rfl rfl (Nat.le_of_ble_eq_true rfl) (by omega) (by decide) (by omega) (by omega) (e_ordinal (d := d - 1) 1 (by omega) (by omega)) (q_kR ?_) q_xR
  change q_W _ _ _ _ _ _ _ _ 7 [.ref (a), .ref (4), .int (xa), .int (xb)] [.int (1), .ref (1)] _
  refine q_taldIN (i := 1) (n := 11) (f := fun j => .int (nI ((j + 1) % 11))) (j := 1) (by decide) dX8_apply_7 rfl (by omega) (by decide) ?_
  change q_W _ _ _ _ _ _ _ _ 8 [.ref (a), .ref (4), .int (xa), .int (xb)] [.int (2)] _
  refine q_tableIn (off := 62) 70 dX8_apply_8 (by decide) (by decide) (by decide) (by decide) ?_
  refine q_aload_n (by first | assumption | omega | decide) dX8_apply_70 rfl ?_
  refine q_iload_n dX8_apply_71 rfl ?_
  rcases x1 : x_st_remove n id wt ag tg att mn mv br xa with ⟨v1 | e1, y1_n, y1_id, y1_wt, y1_ag, y1_tg, y1_att, y1_mn, y1_br⟩
  · have e9 := e_st_remove (g := g) (h := h) (d := d - 1) sst xa (by omega)
    rw [x1] at e9
    refine q_invV (mc' := 1) (ms' := 6) (d' := d - 1) (as := [.int (xa)]) dX8_apply_72 kM_X8_remove kL_X8_69 kI_X8_remove kS_X8_remove rfl (kC_X8.1) sst.c0 rfl rfl (Nat.le_of_ble_eq_true rfl) (by omega) (by decide) (by omega) (by omega) (e9) (q_kC (fun h2 hB => ?_)) q_xC
    obtain ⟨t2_0, pp2⟩ := hB
    have sst2 := t2_0
    have p2 := p0.trans (pp2.wide (by omega) (by omega))
    have hb_st_n : y1_n ≤ 8 := sst2.bn
    have hb_st_mn : y1_mn ≤ 12 := sst2.bmn
    change q_W _ _ _ _ _ _ _ _ 75 [.ref (a), .ref (4), .int (xa), .int (xb)] [.int (v1)] _
    have hE : x_st_apply1 n id wt ag tg att mn mv br xa = (.inl v1, y1_n, y1_id, y1_wt, y1_ag, y1_tg, y1_att, y1_mn, y1_br) := by simp only [x_st_apply1, x1]
    rw [hE]
    exact q_ireturn dX8_apply_75 rfl rfl (by omega) (by omega) ⟨rfl, sst2, p2⟩
  · have e9 := e_st_remove (g := g) (h := h) (d := d - 1) sst xa (by omega)
    rw [x1] at e9
    refine q_invV (mc' := 1) (ms' := 6) (d' := d - 1) (as := [.int (xa)]) dX8_apply_72 kM_X8_remove kL_X8_69 kI_X8_remove kS_X8_remove rfl (kC_X8.1) sst.c0 rfl rfl (Nat.le_of_ble_eq_true rfl) (by omega) (by decide) (by omega) (by omega) (e9) q_kCx (q_xCx (fun h3 hB => ?_))
    obtain ⟨t3_0, pp3⟩ := hB
    have sst3 := t3_0
    have p3 := p0.trans (pp3.wide (by omega) (by omega))
    have hb_st_n : y1_n ≤ 8 := sst3.bn
    have hb_st_mn : y1_mn ≤ 12 := sst3.bmn
    have hE : x_st_apply1 n id wt ag tg att mn mv br xa = (.inr e1, y1_n, y1_id, y1_wt, y1_ag, y1_tg, y1_att, y1_mn, y1_br) := by simp only [x_st_apply1, x1]
    rw [hE]
    exact q_xout rfl ⟨rfl, sst3, p3⟩ (by omega) (by omega)
def x_st_apply2 (n : Nat) (id : Nat → Int32) (wt : Nat → Int32) (ag : Nat → Int32) (tg : Nat → Int32) (att : Nat → Int32) (xa : Int32) (xb : Int32) : (Int32 ⊕ String) × (Nat → Int32) × (Nat → Int32) := (match x_st_attack n id wt ag tg att xa xb with | ((.inl v1), y1_tg, y1_att) => (.inl v1, y1_tg, y1_att) | ((.inr e1), y1_tg, y1_att) => (.inr e1, y1_tg, y1_att))
set_option maxRecDepth 100000 in
set_option maxHeartbeats 8000000 in
theorem e_st_apply2 {g : q_G} {h : q_H} {d : Nat} {a : Nat} {n : Nat} {id : Nat → Int32} {wt : Nat → Int32} {ag : Nat → Int32} {tg : Nat → Int32} {att : Nat → Int32} {ni : Int32} {dy : Int32} {mn : Nat} {mv : Nat → Int32} {en : Int32} {wo : Int32} {br : Int32} (sst : z_S2 h a n id wt ag tg att ni dy mn mv en wo br)  (xa : Int32) (xb : Int32)   (hd : 9 ≤ d) : q_Spec g mX8_apply d 4 24 [.ref (a), .ref (5), .int (xa), .int (xb)] h (q_chg (q_oI (x_st_apply2 n id wt ag tg att xa xb).1) (fun h1 => z_S2 h1 a n id wt ag ((x_st_apply2 n id wt ag tg att xa xb).2.1) ((x_st_apply2 n id wt ag tg att xa xb).2.2) ni dy mn mv en wo br ∧ q_same h h1 a 8)) := by
  have hr_st := sst.r0
  have hb_st_n := sst.bn
  have hb_st_mn := sst.bmn
  have ho_st_n := sst.bn
  have ho_st_mn := sst.bmn
  have p0 : q_same h h a 8 := q_same.rfl'
  refine q_enter (by decide +kernel) rfl rfl (Nat.le_of_ble_eq_true rfl) (fun hz => ?_)
  change q_W _ _ _ _ _ _ _ _ _ [.ref (a), .ref (5), .int (xa), .int (xb)] [] _
  refine q_getstatic (v := .ref (1)) (by simp [q_zs]) kL_X8_54 rfl dX8_apply_0 ?_
  change q_W _ _ _ _ _ _ _ _ 3 [.ref (a), .ref (5), .int (xa), .int (xb)] [.ref (1)] _
  refine q_aload_nK (by omega) dX8_apply_3 rfl ?_
  refine q_invUO (x := ⟨RX9, "ordinal", "()I"⟩) (C := RX9) (i := 5) (mc' := 0) (ms' := 0) (d' := d - 1) (as := []) dX8_apply_4 kM_Jx29ce0_ordinal_8abf5 rfl (by decide) kL_X8_59 kW_1088 kI_Jx29ce0_ordinal_8abf5 kU_2 rfl (by unfold q_R0; omega) (q_verbO (k := 2) (by omega)) rfl rfl (Nat.le_of_ble_eq_true rfl) (by omega) (by decide) (by omega) (by omega) (e_ordinal (d := d - 1) 2 (by omega) (by omega)) (q_kR ?_) q_xR
  change q_W _ _ _ _ _ _ _ _ 7 [.ref (a), .ref (5), .int (xa), .int (xb)] [.int (2), .ref (1)] _
  refine q_taldIN (i := 1) (n := 11) (f := fun j => .int (nI ((j + 1) % 11))) (j := 2) (by decide) dX8_apply_7 rfl (by omega) (by decide) ?_
  change q_W _ _ _ _ _ _ _ _ 8 [.ref (a), .ref (5), .int (xa), .int (xb)] [.int (3)] _
  refine q_tableIn (off := 68) 76 dX8_apply_8 (by decide) (by decide) (by decide) (by decide) ?_
  refine q_aload_n (by first | assumption | omega | decide) dX8_apply_76 rfl ?_
  refine q_iload_n dX8_apply_77 rfl ?_
  refine q_iload_n dX8_apply_78 rfl ?_
  rcases x1 : x_st_attack n id wt ag tg att xa xb with ⟨v1 | e1, y1_tg, y1_att⟩
  · have e9 := e_st_attack (g := g) (h := h) (d := d - 1) sst xa xb (by omega)
    rw [x1] at e9
    refine q_invV (mc' := 3) (ms' := 18) (d' := d - 1) (as := [.int (xa), .int (xb)]) dX8_apply_79 kM_X8_attack kL_X8_72 kI_X8_attack kS_X8_attack rfl (kC_X8.1) sst.c0 rfl rfl (Nat.le_of_ble_eq_true rfl) (by omega) (by decide) (by omega) (by omega) (e9) (q_kC (fun h2 hB => ?_)) q_xC
    obtain ⟨t2_0, pp2⟩ := hB
    have sst2 := t2_0
    have p2 := p0.trans (pp2.wide (by omega) (by omega))
    have hb_st_n := sst2.bn
    have hb_st_mn := sst2.bmn
    change q_W _ _ _ _ _ _ _ _ 82 [.ref (a), .ref (5), .int (xa), .int (xb)] [.int (v1)] _
    have hE : x_st_apply2 n id wt ag tg att xa xb = (.inl v1, y1_tg, y1_att) := by simp only [x_st_apply2, x1]
    rw [hE]
    exact q_ireturn dX8_apply_82 rfl rfl (by omega) (by omega) ⟨rfl, sst2, p2⟩
  · have e9 := e_st_attack (g := g) (h := h) (d := d - 1) sst xa xb (by omega)
    rw [x1] at e9
    refine q_invV (mc' := 3) (ms' := 18) (d' := d - 1) (as := [.int (xa), .int (xb)]) dX8_apply_79 kM_X8_attack kL_X8_72 kI_X8_attack kS_X8_attack rfl (kC_X8.1) sst.c0 rfl rfl (Nat.le_of_ble_eq_true rfl) (by omega) (by decide) (by omega) (by omega) (e9) q_kCx (q_xCx (fun h3 hB => ?_))
    obtain ⟨t3_0, pp3⟩ := hB
    have sst3 := t3_0
    have p3 := p0.trans (pp3.wide (by omega) (by omega))
    have hb_st_n := sst3.bn
    have hb_st_mn := sst3.bmn
    have hE : x_st_apply2 n id wt ag tg att xa xb = (.inr e1, y1_tg, y1_att) := by simp only [x_st_apply2, x1]
    rw [hE]
    exact q_xout rfl ⟨rfl, sst3, p3⟩ (by omega) (by omega)
def x_st_apply3 (n : Nat) (id : Nat → Int32) (wt : Nat → Int32) (ag : Nat → Int32) (tg : Nat → Int32) (att : Nat → Int32) (xa : Int32) (xb : Int32) : (Int32 ⊕ String) × (Nat → Int32) × (Nat → Int32) := (match x_st_yieldAttack n id wt ag tg att xa xb with | ((.inl v1), y1_tg, y1_att) => (.inl v1, y1_tg, y1_att) | ((.inr e1), y1_tg, y1_att) => (.inr e1, y1_tg, y1_att))
set_option maxRecDepth 100000 in
set_option maxHeartbeats 8000000 in
theorem e_st_apply3 {g : q_G} {h : q_H} {d : Nat} {a : Nat} {n : Nat} {id : Nat → Int32} {wt : Nat → Int32} {ag : Nat → Int32} {tg : Nat → Int32} {att : Nat → Int32} {ni : Int32} {dy : Int32} {mn : Nat} {mv : Nat → Int32} {en : Int32} {wo : Int32} {br : Int32} (sst : z_S2 h a n id wt ag tg att ni dy mn mv en wo br)  (xa : Int32) (xb : Int32)   (hd : 9 ≤ d) : q_Spec g mX8_apply d 4 24 [.ref (a), .ref (6), .int (xa), .int (xb)] h (q_chg (q_oI (x_st_apply3 n id wt ag tg att xa xb).1) (fun h1 => z_S2 h1 a n id wt ag ((x_st_apply3 n id wt ag tg att xa xb).2.1) ((x_st_apply3 n id wt ag tg att xa xb).2.2) ni dy mn mv en wo br ∧ q_same h h1 a 8)) := by
  have hr_st := sst.r0
  have hb_st_n := sst.bn
  have hb_st_mn := sst.bmn
  have ho_st_n := sst.bn
  have ho_st_mn := sst.bmn
  have p0 : q_same h h a 8 := q_same.rfl'
  refine q_enter (by decide +kernel) rfl rfl (Nat.le_of_ble_eq_true rfl) (fun hz => ?_)
  change q_W _ _ _ _ _ _ _ _ _ [.ref (a), .ref (6), .int (xa), .int (xb)] [] _
  refine q_getstatic (v := .ref (1)) (by simp [q_zs]) kL_X8_54 rfl dX8_apply_0 ?_
  change q_W _ _ _ _ _ _ _ _ 3 [.ref (a), .ref (6), .int (xa), .int (xb)] [.ref (1)] _
  refine q_aload_nK (by omega) dX8_apply_3 rfl ?_
  refine q_invUO (x := ⟨RX9, "ordinal", "()I"⟩) (C := RX9) (i := 6) (mc' := 0) (ms' := 0) (d' := d - 1) (as := []) dX8_apply_4 kM_Jx29ce0_ordinal_8abf5 rfl (by decide) kL_X8_59 kW_1088 kI_Jx29ce0_ordinal_8abf5 kU_2 rfl (by unfold q_R0; omega) (q_verbO (k := 3) (by omega)) rfl rfl (Nat.le_of_ble_eq_true rfl) (by omega) (by decide) (by omega) (by omega) (e_ordinal (d := d - 1) 3 (by omega) (by omega)) (q_kR ?_) q_xR
  change q_W _ _ _ _ _ _ _ _ 7 [.ref (a), .ref (6), .int (xa), .int (xb)] [.int (3), .ref (1)] _
  refine q_taldIN (i := 1) (n := 11) (f := fun j => .int (nI ((j + 1) % 11))) (j := 3) (by decide) dX8_apply_7 rfl (by omega) (by decide) ?_
  change q_W _ _ _ _ _ _ _ _ 8 [.ref (a), .ref (6), .int (xa), .int (xb)] [.int (4)] _
  refine q_tableIn (off := 75) 83 dX8_apply_8 (by decide) (by decide) (by decide) (by decide) ?_
  refine q_aload_n (by first | assumption | omega | decide) dX8_apply_83 rfl ?_
  refine q_iload_n dX8_apply_84 rfl ?_
  refine q_iload_n dX8_apply_85 rfl ?_
  rcases x1 : x_st_yieldAttack n id wt ag tg att xa xb with ⟨v1 | e1, y1_tg, y1_att⟩
  · have e9 := e_st_yieldAttack (g := g) (h := h) (d := d - 1) sst xa xb (by omega)
    rw [x1] at e9
    refine q_invV (mc' := 3) (ms' := 18) (d' := d - 1) (as := [.int (xa), .int (xb)]) dX8_apply_86 kM_X8_yieldAttack kL_X8_76 kI_X8_yieldAttack kS_X8_yieldAttack rfl (kC_X8.1) sst.c0 rfl rfl (Nat.le_of_ble_eq_true rfl) (by omega) (by decide) (by omega) (by omega) (e9) (q_kC (fun h2 hB => ?_)) q_xC
    obtain ⟨t2_0, pp2⟩ := hB
    have sst2 := t2_0
    have p2 := p0.trans (pp2.wide (by omega) (by omega))
    have hb_st_n := sst2.bn
    have hb_st_mn := sst2.bmn
    change q_W _ _ _ _ _ _ _ _ 89 [.ref (a), .ref (6), .int (xa), .int (xb)] [.int (v1)] _
    have hE : x_st_apply3 n id wt ag tg att xa xb = (.inl v1, y1_tg, y1_att) := by simp only [x_st_apply3, x1]
    rw [hE]
    exact q_ireturn dX8_apply_89 rfl rfl (by omega) (by omega) ⟨rfl, sst2, p2⟩
  · have e9 := e_st_yieldAttack (g := g) (h := h) (d := d - 1) sst xa xb (by omega)
    rw [x1] at e9
    refine q_invV (mc' := 3) (ms' := 18) (d' := d - 1) (as := [.int (xa), .int (xb)]) dX8_apply_86 kM_X8_yieldAttack kL_X8_76 kI_X8_yieldAttack kS_X8_yieldAttack rfl (kC_X8.1) sst.c0 rfl rfl (Nat.le_of_ble_eq_true rfl) (by omega) (by decide) (by omega) (by omega) (e9) q_kCx (q_xCx (fun h3 hB => ?_))
    obtain ⟨t3_0, pp3⟩ := hB
    have sst3 := t3_0
    have p3 := p0.trans (pp3.wide (by omega) (by omega))
    have hb_st_n := sst3.bn
    have hb_st_mn := sst3.bmn
    have hE : x_st_apply3 n id wt ag tg att xa xb = (.inr e1, y1_tg, y1_att) := by simp only [x_st_apply3, x1]
    rw [hE]
    exact q_xout rfl ⟨rfl, sst3, p3⟩ (by omega) (by omega)
def x_st_apply4 (n : Nat) (id : Nat → Int32) (wt : Nat → Int32) (ag : Nat → Int32) (tg : Nat → Int32) (att : Nat → Int32) (xa : Int32) (xb : Int32) : (Int32 ⊕ String) × (Nat → Int32) × (Nat → Int32) := (match x_st_weigh n id wt ag tg att xa xb with | ((.inl v1), y1_wt, y1_att) => (.inl v1, y1_wt, y1_att) | ((.inr e1), y1_wt, y1_att) => (.inr e1, y1_wt, y1_att))
set_option maxRecDepth 100000 in
set_option maxHeartbeats 8000000 in
theorem e_st_apply4 {g : q_G} {h : q_H} {d : Nat} {a : Nat} {n : Nat} {id : Nat → Int32} {wt : Nat → Int32} {ag : Nat → Int32} {tg : Nat → Int32} {att : Nat → Int32} {ni : Int32} {dy : Int32} {mn : Nat} {mv : Nat → Int32} {en : Int32} {wo : Int32} {br : Int32} (sst : z_S2 h a n id wt ag tg att ni dy mn mv en wo br)  (xa : Int32) (xb : Int32)   (hd : 9 ≤ d) : q_Spec g mX8_apply d 4 24 [.ref (a), .ref (7), .int (xa), .int (xb)] h (q_chg (q_oI (x_st_apply4 n id wt ag tg att xa xb).1) (fun h1 => z_S2 h1 a n id ((x_st_apply4 n id wt ag tg att xa xb).2.1) ag tg ((x_st_apply4 n id wt ag tg att xa xb).2.2) ni dy mn mv en wo br ∧ q_same h h1 a 8)) := by
  have hr_st := sst.r0
  have hb_st_n := sst.bn
  have hb_st_mn := sst.bmn
  have ho_st_n := sst.bn
  have ho_st_mn := sst.bmn
  have p0 : q_same h h a 8 := q_same.rfl'
  refine q_enter (by decide +kernel) rfl rfl (Nat.le_of_ble_eq_true rfl) (fun hz => ?_)
  change q_W _ _ _ _ _ _ _ _ _ [.ref (a), .ref (7), .int (xa), .int (xb)] [] _
  refine q_getstatic (v := .ref (1)) (by simp [q_zs]) kL_X8_54 rfl dX8_apply_0 ?_
  change q_W _ _ _ _ _ _ _ _ 3 [.ref (a), .ref (7), .int (xa), .int (xb)] [.ref (1)] _
  refine q_aload_nK (by omega) dX8_apply_3 rfl ?_
  refine q_invUO (x := ⟨RX9, "ordinal", "()I"⟩) (C := RX9) (i := 7) (mc' := 0) (ms' := 0) (d' := d - 1) (as := []) dX8_apply_4 kM_Jx29ce0_ordinal_8abf5 rfl (by decide) kL_X8_59 kW_1088 kI_Jx29ce0_ordinal_8abf5 kU_2 rfl (by unfold q_R0; omega) (q_verbO (k := 4) (by omega)) rfl rfl (Nat.le_of_ble_eq_true rfl) (by omega) (by decide) (by omega) (by omega) (e_ordinal (d := d - 1) 4 (by omega) (by omega)) (q_kR ?_) q_xR
  change q_W _ _ _ _ _ _ _ _ 7 [.ref (a), .ref (7), .int (xa), .int (xb)] [.int (4), .ref (1)] _
  refine q_taldIN (i := 1) (n := 11) (f := fun j => .int (nI ((j + 1) % 11))) (j := 4) (by decide) dX8_apply_7 rfl (by omega) (by decide) ?_
  change q_W _ _ _ _ _ _ _ _ 8 [.ref (a), .ref (7), .int (xa), .int (xb)] [.int (5)] _
  refine q_tableIn (off := 82) 90 dX8_apply_8 (by decide) (by decide) (by decide) (by decide) ?_
  refine q_aload_n (by first | assumption | omega | decide) dX8_apply_90 rfl ?_
  refine q_iload_n dX8_apply_91 rfl ?_
  refine q_iload_n dX8_apply_92 rfl ?_
  rcases x1 : x_st_weigh n id wt ag tg att xa xb with ⟨v1 | e1, y1_wt, y1_att⟩
  · have e9 := e_st_weigh (g := g) (h := h) (d := d - 1) sst xa xb (by omega)
    rw [x1] at e9
    refine q_invV (mc' := 2) (ms' := 12) (d' := d - 1) (as := [.int (xa), .int (xb)]) dX8_apply_93 kM_X8_weigh kL_X8_79 kI_X8_weigh kS_X8_weigh rfl (kC_X8.1) sst.c0 rfl rfl (Nat.le_of_ble_eq_true rfl) (by omega) (by decide) (by omega) (by omega) (e9) (q_kC (fun h2 hB => ?_)) q_xC
    obtain ⟨t2_0, pp2⟩ := hB
    have sst2 := t2_0
    have p2 := p0.trans (pp2.wide (by omega) (by omega))
    have hb_st_n := sst2.bn
    have hb_st_mn := sst2.bmn
    change q_W _ _ _ _ _ _ _ _ 96 [.ref (a), .ref (7), .int (xa), .int (xb)] [.int (v1)] _
    have hE : x_st_apply4 n id wt ag tg att xa xb = (.inl v1, y1_wt, y1_att) := by simp only [x_st_apply4, x1]
    rw [hE]
    exact q_ireturn dX8_apply_96 rfl rfl (by omega) (by omega) ⟨rfl, sst2, p2⟩
  · have e9 := e_st_weigh (g := g) (h := h) (d := d - 1) sst xa xb (by omega)
    rw [x1] at e9
    refine q_invV (mc' := 2) (ms' := 12) (d' := d - 1) (as := [.int (xa), .int (xb)]) dX8_apply_93 kM_X8_weigh kL_X8_79 kI_X8_weigh kS_X8_weigh rfl (kC_X8.1) sst.c0 rfl rfl (Nat.le_of_ble_eq_true rfl) (by omega) (by decide) (by omega) (by omega) (e9) q_kCx (q_xCx (fun h3 hB => ?_))
    obtain ⟨t3_0, pp3⟩ := hB
    have sst3 := t3_0
    have p3 := p0.trans (pp3.wide (by omega) (by omega))
    have hb_st_n := sst3.bn
    have hb_st_mn := sst3.bmn
    have hE : x_st_apply4 n id wt ag tg att xa xb = (.inr e1, y1_wt, y1_att) := by simp only [x_st_apply4, x1]
    rw [hE]
    exact q_xout rfl ⟨rfl, sst3, p3⟩ (by omega) (by omega)
def x_st_apply5 (n : Nat) (id : Nat → Int32) (wt : Nat → Int32) (ag : Nat → Int32) (tg : Nat → Int32) (att : Nat → Int32) (xa : Int32) : (Int32 ⊕ String) × (Nat → Int32) × (Nat → Int32) := (match x_st_makeNew n id wt ag tg att xa with | ((.inl v1), y1_ag, y1_att) => (.inl v1, y1_ag, y1_att) | ((.inr e1), y1_ag, y1_att) => (.inr e1, y1_ag, y1_att))
set_option maxRecDepth 100000 in
set_option maxHeartbeats 8000000 in
theorem e_st_apply5 {g : q_G} {h : q_H} {d : Nat} {a : Nat} {n : Nat} {id : Nat → Int32} {wt : Nat → Int32} {ag : Nat → Int32} {tg : Nat → Int32} {att : Nat → Int32} {ni : Int32} {dy : Int32} {mn : Nat} {mv : Nat → Int32} {en : Int32} {wo : Int32} {br : Int32} (sst : z_S2 h a n id wt ag tg att ni dy mn mv en wo br)  (xa : Int32) (xb : Int32)   (hd : 9 ≤ d) : q_Spec g mX8_apply d 4 24 [.ref (a), .ref (8), .int (xa), .int (xb)] h (q_chg (q_oI (x_st_apply5 n id wt ag tg att xa).1) (fun h1 => z_S2 h1 a n id wt ((x_st_apply5 n id wt ag tg att xa).2.1) tg ((x_st_apply5 n id wt ag tg att xa).2.2) ni dy mn mv en wo br ∧ q_same h h1 a 8)) := by
  have hr_st := sst.r0
  have hb_st_n := sst.bn
  have hb_st_mn := sst.bmn
  have ho_st_n := sst.bn
  have ho_st_mn := sst.bmn
  have p0 : q_same h h a 8 := q_same.rfl'
  refine q_enter (by decide +kernel) rfl rfl (Nat.le_of_ble_eq_true rfl) (fun hz => ?_)
  change q_W _ _ _ _ _ _ _ _ _ [.ref (a), .ref (8), .int (xa), .int (xb)] [] _
  refine q_getstatic (v := .ref (1)) (by simp [q_zs]) kL_X8_54 rfl dX8_apply_0 ?_
  change q_W _ _ _ _ _ _ _ _ 3 [.ref (a), .ref (8), .int (xa), .int (xb)] [.ref (1)] _
  refine q_aload_nK (by omega) dX8_apply_3 rfl ?_
  refine q_invUO (x := ⟨RX9, "ordinal", "()I"⟩) (C := RX9) (i := 8) (mc' := 0) (ms' := 0) (d' := d - 1) (as := []) dX8_apply_4 kM_Jx29ce0_ordinal_8abf5 rfl (by decide) kL_X8_59 kW_1088 kI_Jx29ce0_ordinal_8abf5 kU_2 rfl (by unfold q_R0; omega) (q_verbO (k := 5) (by omega)) rfl rfl (Nat.le_of_ble_eq_true rfl) (by omega) (by decide) (by omega) (by omega) (e_ordinal (d := d - 1) 5 (by omega) (by omega)) (q_kR ?_) q_xR
  change q_W _ _ _ _ _ _ _ _ 7 [.ref (a), .ref (8), .int (xa), .int (xb)] [.int (5), .ref (1)] _
  refine q_taldIN (i := 1) (n := 11) (f := fun j => .int (nI ((j + 1) % 11))) (j := 5) (by decide) dX8_apply_7 rfl (by omega) (by decide) ?_
  change q_W _ _ _ _ _ _ _ _ 8 [.ref (a), .ref (8), .int (xa), .int (xb)] [.int (6)] _
  refine q_tableIn (off := 89) 97 dX8_apply_8 (by decide) (by decide) (by decide) (by decide) ?_
  refine q_aload_n (by first | assumption | omega | decide) dX8_apply_97 rfl ?_
  refine q_iload_n dX8_apply_98 rfl ?_
  rcases x1 : x_st_makeNew n id wt ag tg att xa with ⟨v1 | e1, y1_ag, y1_att⟩
  · have e9 := e_st_makeNew (g := g) (h := h) (d := d - 1) sst xa (by omega)
    rw [x1] at e9
    refine q_invV (mc' := 1) (ms' := 6) (d' := d - 1) (as := [.int (xa)]) dX8_apply_99 kM_X8_makeNew kL_X8_82 kI_X8_makeNew kS_X8_makeNew rfl (kC_X8.1) sst.c0 rfl rfl (Nat.le_of_ble_eq_true rfl) (by omega) (by decide) (by omega) (by omega) (e9) (q_kC (fun h2 hB => ?_)) q_xC
    obtain ⟨t2_0, pp2⟩ := hB
    have sst2 := t2_0
    have p2 := p0.trans (pp2.wide (by omega) (by omega))
    have hb_st_n := sst2.bn
    have hb_st_mn := sst2.bmn
    change q_W _ _ _ _ _ _ _ _ 102 [.ref (a), .ref (8), .int (xa), .int (xb)] [.int (v1)] _
    have hE : x_st_apply5 n id wt ag tg att xa = (.inl v1, y1_ag, y1_att) := by simp only [x_st_apply5, x1]
    rw [hE]
    exact q_ireturn dX8_apply_102 rfl rfl (by omega) (by omega) ⟨rfl, sst2, p2⟩
  · have e9 := e_st_makeNew (g := g) (h := h) (d := d - 1) sst xa (by omega)
    rw [x1] at e9
    refine q_invV (mc' := 1) (ms' := 6) (d' := d - 1) (as := [.int (xa)]) dX8_apply_99 kM_X8_makeNew kL_X8_82 kI_X8_makeNew kS_X8_makeNew rfl (kC_X8.1) sst.c0 rfl rfl (Nat.le_of_ble_eq_true rfl) (by omega) (by decide) (by omega) (by omega) (e9) q_kCx (q_xCx (fun h3 hB => ?_))
    obtain ⟨t3_0, pp3⟩ := hB
    have sst3 := t3_0
    have p3 := p0.trans (pp3.wide (by omega) (by omega))
    have hb_st_n := sst3.bn
    have hb_st_mn := sst3.bmn
    have hE : x_st_apply5 n id wt ag tg att xa = (.inr e1, y1_ag, y1_att) := by simp only [x_st_apply5, x1]
    rw [hE]
    exact q_xout rfl ⟨rfl, sst3, p3⟩ (by omega) (by omega)
def x_st_apply6 (n : Nat) (id : Nat → Int32) (att : Nat → Int32) (mn : Nat) (mv : Nat → Int32) (xa : Int32) : (Int32 ⊕ String) × (Nat) × (Nat → Int32) := (match x_st_claim n id att mn mv xa with | ((.inl v1), y1_mn, y1_mv) => (.inl v1, y1_mn, y1_mv) | ((.inr e1), y1_mn, y1_mv) => (.inr e1, y1_mn, y1_mv))
set_option maxRecDepth 100000 in
set_option maxHeartbeats 8000000 in
theorem e_st_apply6 {g : q_G} {h : q_H} {d : Nat} {a : Nat} {n : Nat} {id : Nat → Int32} {wt : Nat → Int32} {ag : Nat → Int32} {tg : Nat → Int32} {att : Nat → Int32} {ni : Int32} {dy : Int32} {mn : Nat} {mv : Nat → Int32} {en : Int32} {wo : Int32} {br : Int32} (sst : z_S2 h a n id wt ag tg att ni dy mn mv en wo br)  (xa : Int32) (xb : Int32)   (hd : 9 ≤ d) : q_Spec g mX8_apply d 4 24 [.ref (a), .ref (9), .int (xa), .int (xb)] h (q_chg (q_oI (x_st_apply6 n id att mn mv xa).1) (fun h1 => z_S2 h1 a n id wt ag tg att ni dy ((x_st_apply6 n id att mn mv xa).2.1) ((x_st_apply6 n id att mn mv xa).2.2) en wo br ∧ q_same h h1 a 8)) := by
  have hr_st := sst.r0
  have hb_st_n := sst.bn
  have hb_st_mn := sst.bmn
  have ho_st_n := sst.bn
  have ho_st_mn := sst.bmn
  have p0 : q_same h h a 8 := q_same.rfl'
  refine q_enter (by decide +kernel) rfl rfl (Nat.le_of_ble_eq_true rfl) (fun hz => ?_)
  change q_W _ _ _ _ _ _ _ _ _ [.ref (a), .ref (9), .int (xa), .int (xb)] [] _
  refine q_getstatic (v := .ref (1)) (by simp [q_zs]) kL_X8_54 rfl dX8_apply_0 ?_
  change q_W _ _ _ _ _ _ _ _ 3 [.ref (a), .ref (9), .int (xa), .int (xb)] [.ref (1)] _
  refine q_aload_nK (by omega) dX8_apply_3 rfl ?_
  refine q_invUO (x := ⟨RX9, "ordinal", "()I"⟩) (C := RX9) (i := 9) (mc' := 0) (ms' := 0) (d' := d - 1) (as := []) dX8_apply_4 kM_Jx29ce0_ordinal_8abf5 rfl (by decide) kL_X8_59 kW_1088 kI_Jx29ce0_ordinal_8abf5 kU_2 rfl (by unfold q_R0; omega) (q_verbO (k := 6) (by omega)) rfl rfl (Nat.le_of_ble_eq_true rfl) (by omega) (by decide) (by omega) (by omega) (e_ordinal (d := d - 1) 6 (by omega) (by omega)) (q_kR ?_) q_xR
  change q_W _ _ _ _ _ _ _ _ 7 [.ref (a), .ref (9), .int (xa), .int (xb)] [.int (6), .ref (1)] _
  refine q_taldIN (i := 1) (n := 11) (f := fun j => .int (nI ((j + 1) % 11))) (j := 6) (by decide) dX8_apply_7 rfl (by omega) (by decide) ?_
  change q_W _ _ _ _ _ _ _ _ 8 [.ref (a), .ref (9), .int (xa), .int (xb)] [.int (7)] _
  refine q_tableIn (off := 95) 103 dX8_apply_8 (by decide) (by decide) (by decide) (by decide) ?_
  refine q_aload_n (by first | assumption | omega | decide) dX8_apply_103 rfl ?_
  refine q_iload_n dX8_apply_104 rfl ?_
  rcases x1 : x_st_claim n id att mn mv xa with ⟨v1 | e1, y1_mn, y1_mv⟩
  · have e9 := e_st_claim (g := g) (h := h) (d := d - 1) sst xa (by omega)
    rw [x1] at e9
    refine q_invV (mc' := 2) (ms' := 12) (d' := d - 1) (as := [.int (xa)]) dX8_apply_105 kM_X8_claim kL_X8_85 kI_X8_claim kS_X8_claim rfl (kC_X8.1) sst.c0 rfl rfl (Nat.le_of_ble_eq_true rfl) (by omega) (by decide) (by omega) (by omega) (e9) (q_kC (fun h2 hB => ?_)) q_xC
    obtain ⟨t2_0, pp2⟩ := hB
    have sst2 := t2_0
    have p2 := p0.trans (pp2.wide (by omega) (by omega))
    have hb_st_n := sst2.bn
    have hb_st_mn : y1_mn ≤ 12 := sst2.bmn
    change q_W _ _ _ _ _ _ _ _ 108 [.ref (a), .ref (9), .int (xa), .int (xb)] [.int (v1)] _
    have hE : x_st_apply6 n id att mn mv xa = (.inl v1, y1_mn, y1_mv) := by simp only [x_st_apply6, x1]
    rw [hE]
    exact q_ireturn dX8_apply_108 rfl rfl (by omega) (by omega) ⟨rfl, sst2, p2⟩
  · have e9 := e_st_claim (g := g) (h := h) (d := d - 1) sst xa (by omega)
    rw [x1] at e9
    refine q_invV (mc' := 2) (ms' := 12) (d' := d - 1) (as := [.int (xa)]) dX8_apply_105 kM_X8_claim kL_X8_85 kI_X8_claim kS_X8_claim rfl (kC_X8.1) sst.c0 rfl rfl (Nat.le_of_ble_eq_true rfl) (by omega) (by decide) (by omega) (by omega) (e9) q_kCx (q_xCx (fun h3 hB => ?_))
    obtain ⟨t3_0, pp3⟩ := hB
    have sst3 := t3_0
    have p3 := p0.trans (pp3.wide (by omega) (by omega))
    have hb_st_n := sst3.bn
    have hb_st_mn : y1_mn ≤ 12 := sst3.bmn
    have hE : x_st_apply6 n id att mn mv xa = (.inr e1, y1_mn, y1_mv) := by simp only [x_st_apply6, x1]
    rw [hE]
    exact q_xout rfl ⟨rfl, sst3, p3⟩ (by omega) (by omega)
def x_st_apply7 (n : Nat) (id : Nat → Int32) (att : Nat → Int32) (mn : Nat) (mv : Nat → Int32) (xa : Int32) : (Int32 ⊕ String) × (Nat) × (Nat → Int32) := (match x_st_reply n id att mn mv xa with | ((.inl v1), y1_mn, y1_mv) => (.inl v1, y1_mn, y1_mv) | ((.inr e1), y1_mn, y1_mv) => (.inr e1, y1_mn, y1_mv))
set_option maxRecDepth 100000 in
set_option maxHeartbeats 8000000 in
theorem e_st_apply7 {g : q_G} {h : q_H} {d : Nat} {a : Nat} {n : Nat} {id : Nat → Int32} {wt : Nat → Int32} {ag : Nat → Int32} {tg : Nat → Int32} {att : Nat → Int32} {ni : Int32} {dy : Int32} {mn : Nat} {mv : Nat → Int32} {en : Int32} {wo : Int32} {br : Int32} (sst : z_S2 h a n id wt ag tg att ni dy mn mv en wo br)  (xa : Int32) (xb : Int32)   (hd : 10 ≤ d) : q_Spec g mX8_apply d 4 24 [.ref (a), .ref (10), .int (xa), .int (xb)] h (q_chg (q_oI (x_st_apply7 n id att mn mv xa).1) (fun h1 => z_S2 h1 a n id wt ag tg att ni dy ((x_st_apply7 n id att mn mv xa).2.1) ((x_st_apply7 n id att mn mv xa).2.2) en wo br ∧ q_same h h1 a 8)) := by
  have hr_st := sst.r0
  have hb_st_n := sst.bn
  have hb_st_mn := sst.bmn
  have ho_st_n := sst.bn
  have ho_st_mn := sst.bmn
  have p0 : q_same h h a 8 := q_same.rfl'
  refine q_enter (by decide +kernel) rfl rfl (Nat.le_of_ble_eq_true rfl) (fun hz => ?_)
  change q_W _ _ _ _ _ _ _ _ _ [.ref (a), .ref (10), .int (xa), .int (xb)] [] _
  refine q_getstatic (v := .ref (1)) (by simp [q_zs]) kL_X8_54 rfl dX8_apply_0 ?_
  change q_W _ _ _ _ _ _ _ _ 3 [.ref (a), .ref (10), .int (xa), .int (xb)] [.ref (1)] _
  refine q_aload_nK (by omega) dX8_apply_3 rfl ?_
  refine q_invUO (x := ⟨RX9, "ordinal", "()I"⟩) (C := RX9) (i := 10) (mc' := 0) (ms' := 0) (d' := d - 1) (as := []) dX8_apply_4 kM_Jx29ce0_ordinal_8abf5 rfl (by decide) kL_X8_59 kW_1088 kI_Jx29ce0_ordinal_8abf5 kU_2 rfl (by unfold q_R0; omega) (q_verbO (k := 7) (by omega)) rfl rfl (Nat.le_of_ble_eq_true rfl) (by omega) (by decide) (by omega) (by omega) (e_ordinal (d := d - 1) 7 (by omega) (by omega)) (q_kR ?_) q_xR
  change q_W _ _ _ _ _ _ _ _ 7 [.ref (a), .ref (10), .int (xa), .int (xb)] [.int (7), .ref (1)] _
  refine q_taldIN (i := 1) (n := 11) (f := fun j => .int (nI ((j + 1) % 11))) (j := 7) (by decide) dX8_apply_7 rfl (by omega) (by decide) ?_
  change q_W _ _ _ _ _ _ _ _ 8 [.ref (a), .ref (10), .int (xa), .int (xb)] [.int (8)] _
  refine q_tableIn (off := 101) 109 dX8_apply_8 (by decide) (by decide) (by decide) (by decide) ?_
  refine q_aload_n (by first | assumption | omega | decide) dX8_apply_109 rfl ?_
  refine q_iload_n dX8_apply_110 rfl ?_
  rcases x1 : x_st_reply n id att mn mv xa with ⟨v1 | e1, y1_mn, y1_mv⟩
  · have e9 := e_st_reply (g := g) (h := h) (d := d - 1) sst xa (by omega)
    rw [x1] at e9
    refine q_invV (mc' := 4) (ms' := 24) (d' := d - 1) (as := [.int (xa)]) dX8_apply_111 kM_X8_reply kL_X8_88 kI_X8_reply kS_X8_reply rfl (kC_X8.1) sst.c0 rfl rfl (Nat.le_of_ble_eq_true rfl) (by omega) (by decide) (by omega) (by omega) (e9) (q_kC (fun h2 hB => ?_)) q_xC
    obtain ⟨t2_0, pp2⟩ := hB
    have sst2 := t2_0
    have p2 := p0.trans (pp2.wide (by omega) (by omega))
    have hb_st_n := sst2.bn
    have hb_st_mn : y1_mn ≤ 12 := sst2.bmn
    change q_W _ _ _ _ _ _ _ _ 114 [.ref (a), .ref (10), .int (xa), .int (xb)] [.int (v1)] _
    have hE : x_st_apply7 n id att mn mv xa = (.inl v1, y1_mn, y1_mv) := by simp only [x_st_apply7, x1]
    rw [hE]
    exact q_ireturn dX8_apply_114 rfl rfl (by omega) (by omega) ⟨rfl, sst2, p2⟩
  · have e9 := e_st_reply (g := g) (h := h) (d := d - 1) sst xa (by omega)
    rw [x1] at e9
    refine q_invV (mc' := 4) (ms' := 24) (d' := d - 1) (as := [.int (xa)]) dX8_apply_111 kM_X8_reply kL_X8_88 kI_X8_reply kS_X8_reply rfl (kC_X8.1) sst.c0 rfl rfl (Nat.le_of_ble_eq_true rfl) (by omega) (by decide) (by omega) (by omega) (e9) q_kCx (q_xCx (fun h3 hB => ?_))
    obtain ⟨t3_0, pp3⟩ := hB
    have sst3 := t3_0
    have p3 := p0.trans (pp3.wide (by omega) (by omega))
    have hb_st_n := sst3.bn
    have hb_st_mn : y1_mn ≤ 12 := sst3.bmn
    have hE : x_st_apply7 n id att mn mv xa = (.inr e1, y1_mn, y1_mv) := by simp only [x_st_apply7, x1]
    rw [hE]
    exact q_xout rfl ⟨rfl, sst3, p3⟩ (by omega) (by omega)
def x_st_apply8 (mn : Nat) : (Int32 ⊕ String) × (Nat) := (match x_dl_dropLast mn with | ((.inl v1), y1_mn) => (.inl v1, y1_mn) | ((.inr e1), y1_mn) => (.inr e1, y1_mn))
set_option maxRecDepth 100000 in
set_option maxHeartbeats 8000000 in
theorem e_st_apply8 {g : q_G} {h : q_H} {d : Nat} {a : Nat} {n : Nat} {id : Nat → Int32} {wt : Nat → Int32} {ag : Nat → Int32} {tg : Nat → Int32} {att : Nat → Int32} {ni : Int32} {dy : Int32} {mn : Nat} {mv : Nat → Int32} {en : Int32} {wo : Int32} {br : Int32} (sst : z_S2 h a n id wt ag tg att ni dy mn mv en wo br)  (xa : Int32) (xb : Int32)   (hd : 9 ≤ d) : q_Spec g mX8_apply d 4 24 [.ref (a), .ref (11), .int (xa), .int (xb)] h (q_chg (q_oI (x_st_apply8 mn).1) (fun h1 => z_S2 h1 a n id wt ag tg att ni dy ((x_st_apply8 mn).2) mv en wo br ∧ q_same h h1 a 8)) := by
  have hr_st := sst.r0
  have hb_st_n := sst.bn
  have hb_st_mn := sst.bmn
  have ho_st_n := sst.bn
  have ho_st_mn := sst.bmn
  have p0 : q_same h h a 8 := q_same.rfl'
  refine q_enter (by decide +kernel) rfl rfl (Nat.le_of_ble_eq_true rfl) (fun hz => ?_)
  change q_W _ _ _ _ _ _ _ _ _ [.ref (a), .ref (11), .int (xa), .int (xb)] [] _
  refine q_getstatic (v := .ref (1)) (by simp [q_zs]) kL_X8_54 rfl dX8_apply_0 ?_
  change q_W _ _ _ _ _ _ _ _ 3 [.ref (a), .ref (11), .int (xa), .int (xb)] [.ref (1)] _
  refine q_aload_nK (by omega) dX8_apply_3 rfl ?_
  refine q_invUO (x := ⟨RX9, "ordinal", "()I"⟩) (C := RX9) (i := 11) (mc' := 0) (ms' := 0) (d' := d - 1) (as := []) dX8_apply_4 kM_Jx29ce0_ordinal_8abf5 rfl (by decide) kL_X8_59 kW_1088 kI_Jx29ce0_ordinal_8abf5 kU_2 rfl (by unfold q_R0; omega) (q_verbO (k := 8) (by omega)) rfl rfl (Nat.le_of_ble_eq_true rfl) (by omega) (by decide) (by omega) (by omega) (e_ordinal (d := d - 1) 8 (by omega) (by omega)) (q_kR ?_) q_xR
  change q_W _ _ _ _ _ _ _ _ 7 [.ref (a), .ref (11), .int (xa), .int (xb)] [.int (8), .ref (1)] _
  refine q_taldIN (i := 1) (n := 11) (f := fun j => .int (nI ((j + 1) % 11))) (j := 8) (by decide) dX8_apply_7 rfl (by omega) (by decide) ?_
  change q_W _ _ _ _ _ _ _ _ 8 [.ref (a), .ref (11), .int (xa), .int (xb)] [.int (9)] _
  refine q_tableIn (off := 107) 115 dX8_apply_8 (by decide) (by decide) (by decide) (by decide) ?_
  refine q_aload_n (by first | assumption | omega | decide) dX8_apply_115 rfl ?_
  refine q_getf (k := 5) (v := .ref (a + 6)) kC_X8 kL_X8_30 rfl (by decide) dX8_apply_116 sst.c0 rfl ?_
  rcases x1 : x_dl_dropLast mn with ⟨v1 | e1, y1_mn⟩
  · have e9 := e_dl_dropLast (g := g) (h := h) (d := d - 1) (sst.dl) (by omega)
    rw [x1] at e9
    refine q_invV (mc' := 2) (ms' := 12) (d' := d - 1) (as := []) dX8_apply_119 kM_X2_dropLast kL_X8_91 kI_X2_dropLast kS_X2_dropLast rfl (kC_X2.1) sst.c6 rfl rfl (Nat.le_of_ble_eq_true rfl) (by omega) (by decide) (by omega) (by omega) (e9) (q_kC (fun h2 hB => ?_)) q_xC
    obtain ⟨t2_0, pp2⟩ := hB
    have sst2 := sst.ofdl t2_0 pp2
    have p2 := p0.trans (pp2.wide (by omega) (by omega))
    have hb_st_n := sst2.bn
    have hb_st_mn : y1_mn ≤ 12 := sst2.bmn
    change q_W _ _ _ _ _ _ _ _ 122 [.ref (a), .ref (11), .int (xa), .int (xb)] [.int (v1)] _
    have hE : x_st_apply8 mn = (.inl v1, y1_mn) := by simp only [x_st_apply8, x1]
    rw [hE]
    exact q_ireturn dX8_apply_122 rfl rfl (by omega) (by omega) ⟨rfl, sst2, p2⟩
  · have e9 := e_dl_dropLast (g := g) (h := h) (d := d - 1) (sst.dl) (by omega)
    rw [x1] at e9
    refine q_invV (mc' := 2) (ms' := 12) (d' := d - 1) (as := []) dX8_apply_119 kM_X2_dropLast kL_X8_91 kI_X2_dropLast kS_X2_dropLast rfl (kC_X2.1) sst.c6 rfl rfl (Nat.le_of_ble_eq_true rfl) (by omega) (by decide) (by omega) (by omega) (e9) q_kCx (q_xCx (fun h3 hB => ?_))
    obtain ⟨t3_0, pp3⟩ := hB
    have sst3 := sst.ofdl t3_0 pp3
    have p3 := p0.trans (pp3.wide (by omega) (by omega))
    have hb_st_n := sst3.bn
    have hb_st_mn : y1_mn ≤ 12 := sst3.bmn
    have hE : x_st_apply8 mn = (.inr e1, y1_mn) := by simp only [x_st_apply8, x1]
    rw [hE]
    exact q_xout rfl ⟨rfl, sst3, p3⟩ (by omega) (by omega)
def x_st_apply9 (mn : Nat) (en : Int32) (wo : Int32) : (Int32 ⊕ String) × (Nat) × (Int32) × (Int32) := (match x_dl_end mn en wo with | ((.inl v1), y1_mn, y1_en, y1_wo) => (.inl v1, y1_mn, y1_en, y1_wo) | ((.inr e1), y1_mn, y1_en, y1_wo) => (.inr e1, y1_mn, y1_en, y1_wo))
set_option maxRecDepth 100000 in
set_option maxHeartbeats 8000000 in
theorem e_st_apply9 {g : q_G} {h : q_H} {d : Nat} {a : Nat} {n : Nat} {id : Nat → Int32} {wt : Nat → Int32} {ag : Nat → Int32} {tg : Nat → Int32} {att : Nat → Int32} {ni : Int32} {dy : Int32} {mn : Nat} {mv : Nat → Int32} {en : Int32} {wo : Int32} {br : Int32} (sst : z_S2 h a n id wt ag tg att ni dy mn mv en wo br)  (xa : Int32) (xb : Int32)   (hd : 9 ≤ d) : q_Spec g mX8_apply d 4 24 [.ref (a), .ref (12), .int (xa), .int (xb)] h (q_chg (q_oI (x_st_apply9 mn en wo).1) (fun h1 => z_S2 h1 a n id wt ag tg att ni dy ((x_st_apply9 mn en wo).2.1) mv ((x_st_apply9 mn en wo).2.2.1) ((x_st_apply9 mn en wo).2.2.2) br ∧ q_same h h1 a 8)) := by
  have hr_st := sst.r0
  have hb_st_n := sst.bn
  have hb_st_mn := sst.bmn
  have ho_st_n := sst.bn
  have ho_st_mn := sst.bmn
  have p0 : q_same h h a 8 := q_same.rfl'
  refine q_enter (by decide +kernel) rfl rfl (Nat.le_of_ble_eq_true rfl) (fun hz => ?_)
  change q_W _ _ _ _ _ _ _ _ _ [.ref (a), .ref (12), .int (xa), .int (xb)] [] _
  refine q_getstatic (v := .ref (1)) (by simp [q_zs]) kL_X8_54 rfl dX8_apply_0 ?_
  change q_W _ _ _ _ _ _ _ _ 3 [.ref (a), .ref (12), .int (xa), .int (xb)] [.ref (1)] _
  refine q_aload_nK (by omega) dX8_apply_3 rfl ?_
  refine q_invUO (x := ⟨RX9, "ordinal", "()I"⟩) (C := RX9) (i := 12) (mc' := 0) (ms' := 0) (d' := d - 1) (as := []) dX8_apply_4 kM_Jx29ce0_ordinal_8abf5 rfl (by decide) kL_X8_59 kW_1088 kI_Jx29ce0_ordinal_8abf5 kU_2 rfl (by unfold q_R0; omega) (q_verbO (k := 9) (by omega)) rfl rfl (Nat.le_of_ble_eq_true rfl) (by omega) (by decide) (by omega) (by omega) (e_ordinal (d := d - 1) 9 (by omega) (by omega)) (q_kR ?_) q_xR
  change q_W _ _ _ _ _ _ _ _ 7 [.ref (a), .ref (12), .int (xa), .int (xb)] [.int (9), .ref (1)] _
  refine q_taldIN (i := 1) (n := 11) (f := fun j => .int (nI ((j + 1) % 11))) (j := 9) (by decide) dX8_apply_7 rfl (by omega) (by decide) ?_
  change q_W _ _ _ _ _ _ _ _ 8 [.ref (a), .ref (12), .int (xa), .int (xb)] [.int (10)] _
  refine q_tableIn (off := 115) 123 dX8_apply_8 (by decide) (by decide) (by decide) (by decide) ?_
  refine q_aload_n (by first | assumption | omega | decide) dX8_apply_123 rfl ?_
  refine q_getf (k := 5) (v := .ref (a + 6)) kC_X8 kL_X8_30 rfl (by decide) dX8_apply_124 sst.c0 rfl ?_
  rcases x1 : x_dl_end mn en wo with ⟨v1 | e1, y1_mn, y1_en, y1_wo⟩
  · have e9 := e_dl_end (g := g) (h := h) (d := d - 1) (sst.dl) (by omega)
    rw [x1] at e9
    refine q_invV (mc' := 1) (ms' := 6) (d' := d - 1) (as := []) dX8_apply_127 kM_X2_end kL_X8_94 kI_X2_end kS_X2_end rfl (kC_X2.1) sst.c6 rfl rfl (Nat.le_of_ble_eq_true rfl) (by omega) (by decide) (by omega) (by omega) (e9) (q_kC (fun h2 hB => ?_)) q_xC
    obtain ⟨t2_0, pp2⟩ := hB
    have sst2 := sst.ofdl t2_0 pp2
    have p2 := p0.trans (pp2.wide (by omega) (by omega))
    have hb_st_n := sst2.bn
    have hb_st_mn : y1_mn ≤ 12 := sst2.bmn
    change q_W _ _ _ _ _ _ _ _ 130 [.ref (a), .ref (12), .int (xa), .int (xb)] [.int (v1)] _
    have hE : x_st_apply9 mn en wo = (.inl v1, y1_mn, y1_en, y1_wo) := by simp only [x_st_apply9, x1]
    rw [hE]
    exact q_ireturn dX8_apply_130 rfl rfl (by omega) (by omega) ⟨rfl, sst2, p2⟩
  · have e9 := e_dl_end (g := g) (h := h) (d := d - 1) (sst.dl) (by omega)
    rw [x1] at e9
    refine q_invV (mc' := 1) (ms' := 6) (d' := d - 1) (as := []) dX8_apply_127 kM_X2_end kL_X8_94 kI_X2_end kS_X2_end rfl (kC_X2.1) sst.c6 rfl rfl (Nat.le_of_ble_eq_true rfl) (by omega) (by decide) (by omega) (by omega) (e9) q_kCx (q_xCx (fun h3 hB => ?_))
    obtain ⟨t3_0, pp3⟩ := hB
    have sst3 := sst.ofdl t3_0 pp3
    have p3 := p0.trans (pp3.wide (by omega) (by omega))
    have hb_st_n := sst3.bn
    have hb_st_mn : y1_mn ≤ 12 := sst3.bmn
    have hE : x_st_apply9 mn en wo = (.inr e1, y1_mn, y1_en, y1_wo) := by simp only [x_st_apply9, x1]
    rw [hE]
    exact q_xout rfl ⟨rfl, sst3, p3⟩ (by omega) (by omega)
def x_st_apply10 (n : Nat) (wt : Nat → Int32) (ag : Nat → Int32) (tg : Nat → Int32) (att : Nat → Int32) (dy : Int32) (xa : Int32) : (Int32 ⊕ String) × (Nat → Int32) × (Nat → Int32) × (Int32) := (match x_st_letPass n wt ag tg att dy xa with | ((.inl v1), y1_ag, y1_att, y1_dy) => (.inl v1, y1_ag, y1_att, y1_dy) | ((.inr e1), y1_ag, y1_att, y1_dy) => (.inr e1, y1_ag, y1_att, y1_dy))
set_option maxRecDepth 100000 in
set_option maxHeartbeats 8000000 in
theorem e_st_apply10 {g : q_G} {h : q_H} {d : Nat} {a : Nat} {n : Nat} {id : Nat → Int32} {wt : Nat → Int32} {ag : Nat → Int32} {tg : Nat → Int32} {att : Nat → Int32} {ni : Int32} {dy : Int32} {mn : Nat} {mv : Nat → Int32} {en : Int32} {wo : Int32} {br : Int32} (sst : z_S2 h a n id wt ag tg att ni dy mn mv en wo br)  (xa : Int32) (xb : Int32)   (hd : 8 ≤ d) : q_Spec g mX8_apply d 4 24 [.ref (a), .ref (13), .int (xa), .int (xb)] h (q_chg (q_oI (x_st_apply10 n wt ag tg att dy xa).1) (fun h1 => z_S2 h1 a n id wt ((x_st_apply10 n wt ag tg att dy xa).2.1) tg ((x_st_apply10 n wt ag tg att dy xa).2.2.1) ni ((x_st_apply10 n wt ag tg att dy xa).2.2.2) mn mv en wo br ∧ q_same h h1 a 8)) := by
  have hr_st := sst.r0
  have hb_st_n := sst.bn
  have hb_st_mn := sst.bmn
  have ho_st_n := sst.bn
  have ho_st_mn := sst.bmn
  have p0 : q_same h h a 8 := q_same.rfl'
  refine q_enter (by decide +kernel) rfl rfl (Nat.le_of_ble_eq_true rfl) (fun hz => ?_)
  change q_W _ _ _ _ _ _ _ _ _ [.ref (a), .ref (13), .int (xa), .int (xb)] [] _
  refine q_getstatic (v := .ref (1)) (by simp [q_zs]) kL_X8_54 rfl dX8_apply_0 ?_
  change q_W _ _ _ _ _ _ _ _ 3 [.ref (a), .ref (13), .int (xa), .int (xb)] [.ref (1)] _
  refine q_aload_nK (by omega) dX8_apply_3 rfl ?_
  refine q_invUO (x := ⟨RX9, "ordinal", "()I"⟩) (C := RX9) (i := 13) (mc' := 0) (ms' := 0) (d' := d - 1) (as := []) dX8_apply_4 kM_Jx29ce0_ordinal_8abf5 rfl (by decide) kL_X8_59 kW_1088 kI_Jx29ce0_ordinal_8abf5 kU_2 rfl (by unfold q_R0; omega) (q_verbO (k := 10) (by omega)) rfl rfl (Nat.le_of_ble_eq_true rfl) (by omega) (by decide) (by omega) (by omega) (e_ordinal (d := d - 1) 10 (by omega) (by omega)) (q_kR ?_) q_xR
  change q_W _ _ _ _ _ _ _ _ 7 [.ref (a), .ref (13), .int (xa), .int (xb)] [.int (10), .ref (1)] _
  refine q_taldIN (i := 1) (n := 11) (f := fun j => .int (nI ((j + 1) % 11))) (j := 10) (by decide) dX8_apply_7 rfl (by omega) (by decide) ?_
  change q_W _ _ _ _ _ _ _ _ 8 [.ref (a), .ref (13), .int (xa), .int (xb)] [.int (0)] _
  refine q_tableOut 131 dX8_apply_8 (by decide) (by decide) ?_
  refine q_aload_n (by first | assumption | omega | decide) dX8_apply_131 rfl ?_
  refine q_iload_n dX8_apply_132 rfl ?_
  rcases x1 : x_st_letPass n wt ag tg att dy xa with ⟨v1 | e1, y1_ag, y1_att, y1_dy⟩
  · have e9 := e_st_letPass (g := g) (h := h) (d := d - 1) sst xa (by omega)
    rw [x1] at e9
    refine q_invV (mc' := 1) (ms' := 6) (d' := d - 1) (as := [.int (xa)]) dX8_apply_133 kM_X8_letPass kL_X8_98 kI_X8_letPass kS_X8_letPass rfl (kC_X8.1) sst.c0 rfl rfl (Nat.le_of_ble_eq_true rfl) (by omega) (by decide) (by omega) (by omega) (e9) (q_kC (fun h2 hB => ?_)) q_xC
    obtain ⟨t2_0, pp2⟩ := hB
    have sst2 := t2_0
    have p2 := p0.trans (pp2.wide (by omega) (by omega))
    have hb_st_n := sst2.bn
    have hb_st_mn := sst2.bmn
    change q_W _ _ _ _ _ _ _ _ 136 [.ref (a), .ref (13), .int (xa), .int (xb)] [.int (v1)] _
    have hE : x_st_apply10 n wt ag tg att dy xa = (.inl v1, y1_ag, y1_att, y1_dy) := by simp only [x_st_apply10, x1]
    rw [hE]
    exact q_ireturn dX8_apply_136 rfl rfl (by omega) (by omega) ⟨rfl, sst2, p2⟩
  · have e9 := e_st_letPass (g := g) (h := h) (d := d - 1) sst xa (by omega)
    rw [x1] at e9
    refine q_invV (mc' := 1) (ms' := 6) (d' := d - 1) (as := [.int (xa)]) dX8_apply_133 kM_X8_letPass kL_X8_98 kI_X8_letPass kS_X8_letPass rfl (kC_X8.1) sst.c0 rfl rfl (Nat.le_of_ble_eq_true rfl) (by omega) (by decide) (by omega) (by omega) (e9) q_kCx (q_xCx (fun h3 hB => ?_))
    obtain ⟨t3_0, pp3⟩ := hB
    have sst3 := t3_0
    have p3 := p0.trans (pp3.wide (by omega) (by omega))
    have hb_st_n := sst3.bn
    have hb_st_mn := sst3.bmn
    have hE : x_st_apply10 n wt ag tg att dy xa = (.inr e1, y1_ag, y1_att, y1_dy) := by simp only [x_st_apply10, x1]
    rw [hE]
    exact q_xout rfl ⟨rfl, sst3, p3⟩ (by omega) (by omega)
def x_apply (k : Nat) (a c : Int32) (s : ZS) : (Int32 ⊕ String) × ZS := match k with
  | 0 => let t := x_st_apply0 s.1 s.2.1 s.2.2.1 s.2.2.2.1 s.2.2.2.2.1 s.2.2.2.2.2.1 s.2.2.2.2.2.2.1 a; (t.1, (t.2.1, t.2.2.1, t.2.2.2.1, t.2.2.2.2.1, t.2.2.2.2.2.1, t.2.2.2.2.2.2.1, t.2.2.2.2.2.2.2, s.2.2.2.2.2.2.2.1, s.2.2.2.2.2.2.2.2.1, s.2.2.2.2.2.2.2.2.2.1, s.2.2.2.2.2.2.2.2.2.2.1, s.2.2.2.2.2.2.2.2.2.2.2.1, s.2.2.2.2.2.2.2.2.2.2.2.2))
  | 1 => let t := x_st_apply1 s.1 s.2.1 s.2.2.1 s.2.2.2.1 s.2.2.2.2.1 s.2.2.2.2.2.1 s.2.2.2.2.2.2.2.2.1 s.2.2.2.2.2.2.2.2.2.1 s.2.2.2.2.2.2.2.2.2.2.2.2 a; (t.1, (t.2.1, t.2.2.1, t.2.2.2.1, t.2.2.2.2.1, t.2.2.2.2.2.1, t.2.2.2.2.2.2.1, s.2.2.2.2.2.2.1, s.2.2.2.2.2.2.2.1, t.2.2.2.2.2.2.2.1, s.2.2.2.2.2.2.2.2.2.1, s.2.2.2.2.2.2.2.2.2.2.1, s.2.2.2.2.2.2.2.2.2.2.2.1, t.2.2.2.2.2.2.2.2))
  | 2 => let t := x_st_apply2 s.1 s.2.1 s.2.2.1 s.2.2.2.1 s.2.2.2.2.1 s.2.2.2.2.2.1 a c; (t.1, (s.1, s.2.1, s.2.2.1, s.2.2.2.1, t.2.1, t.2.2, s.2.2.2.2.2.2.1, s.2.2.2.2.2.2.2.1, s.2.2.2.2.2.2.2.2.1, s.2.2.2.2.2.2.2.2.2.1, s.2.2.2.2.2.2.2.2.2.2.1, s.2.2.2.2.2.2.2.2.2.2.2.1, s.2.2.2.2.2.2.2.2.2.2.2.2))
  | 3 => let t := x_st_apply3 s.1 s.2.1 s.2.2.1 s.2.2.2.1 s.2.2.2.2.1 s.2.2.2.2.2.1 a c; (t.1, (s.1, s.2.1, s.2.2.1, s.2.2.2.1, t.2.1, t.2.2, s.2.2.2.2.2.2.1, s.2.2.2.2.2.2.2.1, s.2.2.2.2.2.2.2.2.1, s.2.2.2.2.2.2.2.2.2.1, s.2.2.2.2.2.2.2.2.2.2.1, s.2.2.2.2.2.2.2.2.2.2.2.1, s.2.2.2.2.2.2.2.2.2.2.2.2))
  | 4 => let t := x_st_apply4 s.1 s.2.1 s.2.2.1 s.2.2.2.1 s.2.2.2.2.1 s.2.2.2.2.2.1 a c; (t.1, (s.1, s.2.1, t.2.1, s.2.2.2.1, s.2.2.2.2.1, t.2.2, s.2.2.2.2.2.2.1, s.2.2.2.2.2.2.2.1, s.2.2.2.2.2.2.2.2.1, s.2.2.2.2.2.2.2.2.2.1, s.2.2.2.2.2.2.2.2.2.2.1, s.2.2.2.2.2.2.2.2.2.2.2.1, s.2.2.2.2.2.2.2.2.2.2.2.2))
  | 5 => let t := x_st_apply5 s.1 s.2.1 s.2.2.1 s.2.2.2.1 s.2.2.2.2.1 s.2.2.2.2.2.1 a; (t.1, (s.1, s.2.1, s.2.2.1, t.2.1, s.2.2.2.2.1, t.2.2, s.2.2.2.2.2.2.1, s.2.2.2.2.2.2.2.1, s.2.2.2.2.2.2.2.2.1, s.2.2.2.2.2.2.2.2.2.1, s.2.2.2.2.2.2.2.2.2.2.1, s.2.2.2.2.2.2.2.2.2.2.2.1, s.2.2.2.2.2.2.2.2.2.2.2.2))
  | 6 => let t := x_st_apply6 s.1 s.2.1 s.2.2.2.2.2.1 s.2.2.2.2.2.2.2.2.1 s.2.2.2.2.2.2.2.2.2.1 a; (t.1, (s.1, s.2.1, s.2.2.1, s.2.2.2.1, s.2.2.2.2.1, s.2.2.2.2.2.1, s.2.2.2.2.2.2.1, s.2.2.2.2.2.2.2.1, t.2.1, t.2.2, s.2.2.2.2.2.2.2.2.2.2.1, s.2.2.2.2.2.2.2.2.2.2.2.1, s.2.2.2.2.2.2.2.2.2.2.2.2))
  | 7 => let t := x_st_apply7 s.1 s.2.1 s.2.2.2.2.2.1 s.2.2.2.2.2.2.2.2.1 s.2.2.2.2.2.2.2.2.2.1 a; (t.1, (s.1, s.2.1, s.2.2.1, s.2.2.2.1, s.2.2.2.2.1, s.2.2.2.2.2.1, s.2.2.2.2.2.2.1, s.2.2.2.2.2.2.2.1, t.2.1, t.2.2, s.2.2.2.2.2.2.2.2.2.2.1, s.2.2.2.2.2.2.2.2.2.2.2.1, s.2.2.2.2.2.2.2.2.2.2.2.2))
  | 8 => let t := x_st_apply8 s.2.2.2.2.2.2.2.2.1; (t.1, (s.1, s.2.1, s.2.2.1, s.2.2.2.1, s.2.2.2.2.1, s.2.2.2.2.2.1, s.2.2.2.2.2.2.1, s.2.2.2.2.2.2.2.1, t.2, s.2.2.2.2.2.2.2.2.2.1, s.2.2.2.2.2.2.2.2.2.2.1, s.2.2.2.2.2.2.2.2.2.2.2.1, s.2.2.2.2.2.2.2.2.2.2.2.2))
  | 9 => let t := x_st_apply9 s.2.2.2.2.2.2.2.2.1 s.2.2.2.2.2.2.2.2.2.2.1 s.2.2.2.2.2.2.2.2.2.2.2.1; (t.1, (s.1, s.2.1, s.2.2.1, s.2.2.2.1, s.2.2.2.2.1, s.2.2.2.2.2.1, s.2.2.2.2.2.2.1, s.2.2.2.2.2.2.2.1, t.2.1, s.2.2.2.2.2.2.2.2.2.1, t.2.2.1, t.2.2.2, s.2.2.2.2.2.2.2.2.2.2.2.2))
  | _ => let t := x_st_apply10 s.1 s.2.2.1 s.2.2.2.1 s.2.2.2.2.1 s.2.2.2.2.2.1 s.2.2.2.2.2.2.2.1 a; (t.1, (s.1, s.2.1, s.2.2.1, t.2.1, s.2.2.2.2.1, t.2.2.1, s.2.2.2.2.2.2.1, t.2.2.2, s.2.2.2.2.2.2.2.2.1, s.2.2.2.2.2.2.2.2.2.1, s.2.2.2.2.2.2.2.2.2.2.1, s.2.2.2.2.2.2.2.2.2.2.2.1, s.2.2.2.2.2.2.2.2.2.2.2.2))
theorem x_apply_01 (a c : Int32) (s : ZS) : (x_apply 0 a c s).1 = (x_st_apply0 s.1 s.2.1 s.2.2.1 s.2.2.2.1 s.2.2.2.2.1 s.2.2.2.2.2.1 s.2.2.2.2.2.2.1 a).1 := rfl
theorem x_apply_02 (a c : Int32) (s : ZS) : (x_apply 0 a c s).2 = ((x_st_apply0 s.1 s.2.1 s.2.2.1 s.2.2.2.1 s.2.2.2.2.1 s.2.2.2.2.2.1 s.2.2.2.2.2.2.1 a).2.1, (x_st_apply0 s.1 s.2.1 s.2.2.1 s.2.2.2.1 s.2.2.2.2.1 s.2.2.2.2.2.1 s.2.2.2.2.2.2.1 a).2.2.1, (x_st_apply0 s.1 s.2.1 s.2.2.1 s.2.2.2.1 s.2.2.2.2.1 s.2.2.2.2.2.1 s.2.2.2.2.2.2.1 a).2.2.2.1, (x_st_apply0 s.1 s.2.1 s.2.2.1 s.2.2.2.1 s.2.2.2.2.1 s.2.2.2.2.2.1 s.2.2.2.2.2.2.1 a).2.2.2.2.1, (x_st_apply0 s.1 s.2.1 s.2.2.1 s.2.2.2.1 s.2.2.2.2.1 s.2.2.2.2.2.1 s.2.2.2.2.2.2.1 a).2.2.2.2.2.1, (x_st_apply0 s.1 s.2.1 s.2.2.1 s.2.2.2.1 s.2.2.2.2.1 s.2.2.2.2.2.1 s.2.2.2.2.2.2.1 a).2.2.2.2.2.2.1, (x_st_apply0 s.1 s.2.1 s.2.2.1 s.2.2.2.1 s.2.2.2.2.1 s.2.2.2.2.2.1 s.2.2.2.2.2.2.1 a).2.2.2.2.2.2.2, s.2.2.2.2.2.2.2.1, s.2.2.2.2.2.2.2.2.1, s.2.2.2.2.2.2.2.2.2.1, s.2.2.2.2.2.2.2.2.2.2.1, s.2.2.2.2.2.2.2.2.2.2.2.1, s.2.2.2.2.2.2.2.2.2.2.2.2) := rfl
theorem e_apply0 {g : q_G} {h : q_H} {d b : Nat} {s : ZS} (t : z_S2t h b s) (a c : Int32) (hd : 10 ≤ d) : q_Spec g mX8_apply d 4 24 [.ref b, .ref (3 + 0), .int a, .int c] h (q_chg (q_oI (x_apply 0 a c s).1) (fun h1 => z_S2t h1 b (x_apply 0 a c s).2 ∧ q_same h h1 b 8)) := by
  have e := e_st_apply0 (g := g) (d := d) t a c (by omega)
  rw [x_apply_01, x_apply_02]
  unfold z_S2t
  dsimp only
  exact e
theorem x_apply_11 (a c : Int32) (s : ZS) : (x_apply 1 a c s).1 = (x_st_apply1 s.1 s.2.1 s.2.2.1 s.2.2.2.1 s.2.2.2.2.1 s.2.2.2.2.2.1 s.2.2.2.2.2.2.2.2.1 s.2.2.2.2.2.2.2.2.2.1 s.2.2.2.2.2.2.2.2.2.2.2.2 a).1 := rfl
theorem x_apply_12 (a c : Int32) (s : ZS) : (x_apply 1 a c s).2 = ((x_st_apply1 s.1 s.2.1 s.2.2.1 s.2.2.2.1 s.2.2.2.2.1 s.2.2.2.2.2.1 s.2.2.2.2.2.2.2.2.1 s.2.2.2.2.2.2.2.2.2.1 s.2.2.2.2.2.2.2.2.2.2.2.2 a).2.1, (x_st_apply1 s.1 s.2.1 s.2.2.1 s.2.2.2.1 s.2.2.2.2.1 s.2.2.2.2.2.1 s.2.2.2.2.2.2.2.2.1 s.2.2.2.2.2.2.2.2.2.1 s.2.2.2.2.2.2.2.2.2.2.2.2 a).2.2.1, (x_st_apply1 s.1 s.2.1 s.2.2.1 s.2.2.2.1 s.2.2.2.2.1 s.2.2.2.2.2.1 s.2.2.2.2.2.2.2.2.1 s.2.2.2.2.2.2.2.2.2.1 s.2.2.2.2.2.2.2.2.2.2.2.2 a).2.2.2.1, (x_st_apply1 s.1 s.2.1 s.2.2.1 s.2.2.2.1 s.2.2.2.2.1 s.2.2.2.2.2.1 s.2.2.2.2.2.2.2.2.1 s.2.2.2.2.2.2.2.2.2.1 s.2.2.2.2.2.2.2.2.2.2.2.2 a).2.2.2.2.1, (x_st_apply1 s.1 s.2.1 s.2.2.1 s.2.2.2.1 s.2.2.2.2.1 s.2.2.2.2.2.1 s.2.2.2.2.2.2.2.2.1 s.2.2.2.2.2.2.2.2.2.1 s.2.2.2.2.2.2.2.2.2.2.2.2 a).2.2.2.2.2.1, (x_st_apply1 s.1 s.2.1 s.2.2.1 s.2.2.2.1 s.2.2.2.2.1 s.2.2.2.2.2.1 s.2.2.2.2.2.2.2.2.1 s.2.2.2.2.2.2.2.2.2.1 s.2.2.2.2.2.2.2.2.2.2.2.2 a).2.2.2.2.2.2.1, s.2.2.2.2.2.2.1, s.2.2.2.2.2.2.2.1, (x_st_apply1 s.1 s.2.1 s.2.2.1 s.2.2.2.1 s.2.2.2.2.1 s.2.2.2.2.2.1 s.2.2.2.2.2.2.2.2.1 s.2.2.2.2.2.2.2.2.2.1 s.2.2.2.2.2.2.2.2.2.2.2.2 a).2.2.2.2.2.2.2.1, s.2.2.2.2.2.2.2.2.2.1, s.2.2.2.2.2.2.2.2.2.2.1, s.2.2.2.2.2.2.2.2.2.2.2.1, (x_st_apply1 s.1 s.2.1 s.2.2.1 s.2.2.2.1 s.2.2.2.2.1 s.2.2.2.2.2.1 s.2.2.2.2.2.2.2.2.1 s.2.2.2.2.2.2.2.2.2.1 s.2.2.2.2.2.2.2.2.2.2.2.2 a).2.2.2.2.2.2.2.2) := rfl
theorem e_apply1 {g : q_G} {h : q_H} {d b : Nat} {s : ZS} (t : z_S2t h b s) (a c : Int32) (hd : 10 ≤ d) : q_Spec g mX8_apply d 4 24 [.ref b, .ref (3 + 1), .int a, .int c] h (q_chg (q_oI (x_apply 1 a c s).1) (fun h1 => z_S2t h1 b (x_apply 1 a c s).2 ∧ q_same h h1 b 8)) := by
  have e := e_st_apply1 (g := g) (d := d) t a c (by omega)
  rw [x_apply_11, x_apply_12]
  unfold z_S2t
  dsimp only
  exact e
theorem x_apply_21 (a c : Int32) (s : ZS) : (x_apply 2 a c s).1 = (x_st_apply2 s.1 s.2.1 s.2.2.1 s.2.2.2.1 s.2.2.2.2.1 s.2.2.2.2.2.1 a c).1 := rfl
theorem x_apply_22 (a c : Int32) (s : ZS) : (x_apply 2 a c s).2 = (s.1, s.2.1, s.2.2.1, s.2.2.2.1, (x_st_apply2 s.1 s.2.1 s.2.2.1 s.2.2.2.1 s.2.2.2.2.1 s.2.2.2.2.2.1 a c).2.1, (x_st_apply2 s.1 s.2.1 s.2.2.1 s.2.2.2.1 s.2.2.2.2.1 s.2.2.2.2.2.1 a c).2.2, s.2.2.2.2.2.2.1, s.2.2.2.2.2.2.2.1, s.2.2.2.2.2.2.2.2.1, s.2.2.2.2.2.2.2.2.2.1, s.2.2.2.2.2.2.2.2.2.2.1, s.2.2.2.2.2.2.2.2.2.2.2.1, s.2.2.2.2.2.2.2.2.2.2.2.2) := rfl
theorem e_apply2 {g : q_G} {h : q_H} {d b : Nat} {s : ZS} (t : z_S2t h b s) (a c : Int32) (hd : 10 ≤ d) : q_Spec g mX8_apply d 4 24 [.ref b, .ref (3 + 2), .int a, .int c] h (q_chg (q_oI (x_apply 2 a c s).1) (fun h1 => z_S2t h1 b (x_apply 2 a c s).2 ∧ q_same h h1 b 8)) := by
  have e := e_st_apply2 (g := g) (d := d) t a c (by omega)
  rw [x_apply_21, x_apply_22]
  unfold z_S2t
  dsimp only
  exact e
theorem x_apply_31 (a c : Int32) (s : ZS) : (x_apply 3 a c s).1 = (x_st_apply3 s.1 s.2.1 s.2.2.1 s.2.2.2.1 s.2.2.2.2.1 s.2.2.2.2.2.1 a c).1 := rfl
theorem x_apply_32 (a c : Int32) (s : ZS) : (x_apply 3 a c s).2 = (s.1, s.2.1, s.2.2.1, s.2.2.2.1, (x_st_apply3 s.1 s.2.1 s.2.2.1 s.2.2.2.1 s.2.2.2.2.1 s.2.2.2.2.2.1 a c).2.1, (x_st_apply3 s.1 s.2.1 s.2.2.1 s.2.2.2.1 s.2.2.2.2.1 s.2.2.2.2.2.1 a c).2.2, s.2.2.2.2.2.2.1, s.2.2.2.2.2.2.2.1, s.2.2.2.2.2.2.2.2.1, s.2.2.2.2.2.2.2.2.2.1, s.2.2.2.2.2.2.2.2.2.2.1, s.2.2.2.2.2.2.2.2.2.2.2.1, s.2.2.2.2.2.2.2.2.2.2.2.2) := rfl
theorem e_apply3 {g : q_G} {h : q_H} {d b : Nat} {s : ZS} (t : z_S2t h b s) (a c : Int32) (hd : 10 ≤ d) : q_Spec g mX8_apply d 4 24 [.ref b, .ref (3 + 3), .int a, .int c] h (q_chg (q_oI (x_apply 3 a c s).1) (fun h1 => z_S2t h1 b (x_apply 3 a c s).2 ∧ q_same h h1 b 8)) := by
  have e := e_st_apply3 (g := g) (d := d) t a c (by omega)
  rw [x_apply_31, x_apply_32]
  unfold z_S2t
  dsimp only
  exact e
theorem x_apply_41 (a c : Int32) (s : ZS) : (x_apply 4 a c s).1 = (x_st_apply4 s.1 s.2.1 s.2.2.1 s.2.2.2.1 s.2.2.2.2.1 s.2.2.2.2.2.1 a c).1 := rfl
theorem x_apply_42 (a c : Int32) (s : ZS) : (x_apply 4 a c s).2 = (s.1, s.2.1, (x_st_apply4 s.1 s.2.1 s.2.2.1 s.2.2.2.1 s.2.2.2.2.1 s.2.2.2.2.2.1 a c).2.1, s.2.2.2.1, s.2.2.2.2.1, (x_st_apply4 s.1 s.2.1 s.2.2.1 s.2.2.2.1 s.2.2.2.2.1 s.2.2.2.2.2.1 a c).2.2, s.2.2.2.2.2.2.1, s.2.2.2.2.2.2.2.1, s.2.2.2.2.2.2.2.2.1, s.2.2.2.2.2.2.2.2.2.1, s.2.2.2.2.2.2.2.2.2.2.1, s.2.2.2.2.2.2.2.2.2.2.2.1, s.2.2.2.2.2.2.2.2.2.2.2.2) := rfl
theorem e_apply4 {g : q_G} {h : q_H} {d b : Nat} {s : ZS} (t : z_S2t h b s) (a c : Int32) (hd : 10 ≤ d) : q_Spec g mX8_apply d 4 24 [.ref b, .ref (3 + 4), .int a, .int c] h (q_chg (q_oI (x_apply 4 a c s).1) (fun h1 => z_S2t h1 b (x_apply 4 a c s).2 ∧ q_same h h1 b 8)) := by
  have e := e_st_apply4 (g := g) (d := d) t a c (by omega)
  rw [x_apply_41, x_apply_42]
  unfold z_S2t
  dsimp only
  exact e
theorem x_apply_51 (a c : Int32) (s : ZS) : (x_apply 5 a c s).1 = (x_st_apply5 s.1 s.2.1 s.2.2.1 s.2.2.2.1 s.2.2.2.2.1 s.2.2.2.2.2.1 a).1 := rfl
theorem x_apply_52 (a c : Int32) (s : ZS) : (x_apply 5 a c s).2 = (s.1, s.2.1, s.2.2.1, (x_st_apply5 s.1 s.2.1 s.2.2.1 s.2.2.2.1 s.2.2.2.2.1 s.2.2.2.2.2.1 a).2.1, s.2.2.2.2.1, (x_st_apply5 s.1 s.2.1 s.2.2.1 s.2.2.2.1 s.2.2.2.2.1 s.2.2.2.2.2.1 a).2.2, s.2.2.2.2.2.2.1, s.2.2.2.2.2.2.2.1, s.2.2.2.2.2.2.2.2.1, s.2.2.2.2.2.2.2.2.2.1, s.2.2.2.2.2.2.2.2.2.2.1, s.2.2.2.2.2.2.2.2.2.2.2.1, s.2.2.2.2.2.2.2.2.2.2.2.2) := rfl
theorem e_apply5 {g : q_G} {h : q_H} {d b : Nat} {s : ZS} (t : z_S2t h b s) (a c : Int32) (hd : 10 ≤ d) : q_Spec g mX8_apply d 4 24 [.ref b, .ref (3 + 5), .int a, .int c] h (q_chg (q_oI (x_apply 5 a c s).1) (fun h1 => z_S2t h1 b (x_apply 5 a c s).2 ∧ q_same h h1 b 8)) := by
  have e := e_st_apply5 (g := g) (d := d) t a c (by omega)
  rw [x_apply_51, x_apply_52]
  unfold z_S2t
  dsimp only
  exact e
theorem x_apply_61 (a c : Int32) (s : ZS) : (x_apply 6 a c s).1 = (x_st_apply6 s.1 s.2.1 s.2.2.2.2.2.1 s.2.2.2.2.2.2.2.2.1 s.2.2.2.2.2.2.2.2.2.1 a).1 := rfl
theorem x_apply_62 (a c : Int32) (s : ZS) : (x_apply 6 a c s).2 = (s.1, s.2.1, s.2.2.1, s.2.2.2.1, s.2.2.2.2.1, s.2.2.2.2.2.1, s.2.2.2.2.2.2.1, s.2.2.2.2.2.2.2.1, (x_st_apply6 s.1 s.2.1 s.2.2.2.2.2.1 s.2.2.2.2.2.2.2.2.1 s.2.2.2.2.2.2.2.2.2.1 a).2.1, (x_st_apply6 s.1 s.2.1 s.2.2.2.2.2.1 s.2.2.2.2.2.2.2.2.1 s.2.2.2.2.2.2.2.2.2.1 a).2.2, s.2.2.2.2.2.2.2.2.2.2.1, s.2.2.2.2.2.2.2.2.2.2.2.1, s.2.2.2.2.2.2.2.2.2.2.2.2) := rfl
theorem e_apply6 {g : q_G} {h : q_H} {d b : Nat} {s : ZS} (t : z_S2t h b s) (a c : Int32) (hd : 10 ≤ d) : q_Spec g mX8_apply d 4 24 [.ref b, .ref (3 + 6), .int a, .int c] h (q_chg (q_oI (x_apply 6 a c s).1) (fun h1 => z_S2t h1 b (x_apply 6 a c s).2 ∧ q_same h h1 b 8)) := by
  have e := e_st_apply6 (g := g) (d := d) t a c (by omega)
  rw [x_apply_61, x_apply_62]
  unfold z_S2t
  dsimp only
  exact e
theorem x_apply_71 (a c : Int32) (s : ZS) : (x_apply 7 a c s).1 = (x_st_apply7 s.1 s.2.1 s.2.2.2.2.2.1 s.2.2.2.2.2.2.2.2.1 s.2.2.2.2.2.2.2.2.2.1 a).1 := rfl
theorem x_apply_72 (a c : Int32) (s : ZS) : (x_apply 7 a c s).2 = (s.1, s.2.1, s.2.2.1, s.2.2.2.1, s.2.2.2.2.1, s.2.2.2.2.2.1, s.2.2.2.2.2.2.1, s.2.2.2.2.2.2.2.1, (x_st_apply7 s.1 s.2.1 s.2.2.2.2.2.1 s.2.2.2.2.2.2.2.2.1 s.2.2.2.2.2.2.2.2.2.1 a).2.1, (x_st_apply7 s.1 s.2.1 s.2.2.2.2.2.1 s.2.2.2.2.2.2.2.2.1 s.2.2.2.2.2.2.2.2.2.1 a).2.2, s.2.2.2.2.2.2.2.2.2.2.1, s.2.2.2.2.2.2.2.2.2.2.2.1, s.2.2.2.2.2.2.2.2.2.2.2.2) := rfl
theorem e_apply7 {g : q_G} {h : q_H} {d b : Nat} {s : ZS} (t : z_S2t h b s) (a c : Int32) (hd : 10 ≤ d) : q_Spec g mX8_apply d 4 24 [.ref b, .ref (3 + 7), .int a, .int c] h (q_chg (q_oI (x_apply 7 a c s).1) (fun h1 => z_S2t h1 b (x_apply 7 a c s).2 ∧ q_same h h1 b 8)) := by
  have e := e_st_apply7 (g := g) (d := d) t a c (by omega)
  rw [x_apply_71, x_apply_72]
  unfold z_S2t
  dsimp only
  exact e
theorem x_apply_81 (a c : Int32) (s : ZS) : (x_apply 8 a c s).1 = (x_st_apply8 s.2.2.2.2.2.2.2.2.1).1 := rfl
theorem x_apply_82 (a c : Int32) (s : ZS) : (x_apply 8 a c s).2 = (s.1, s.2.1, s.2.2.1, s.2.2.2.1, s.2.2.2.2.1, s.2.2.2.2.2.1, s.2.2.2.2.2.2.1, s.2.2.2.2.2.2.2.1, (x_st_apply8 s.2.2.2.2.2.2.2.2.1).2, s.2.2.2.2.2.2.2.2.2.1, s.2.2.2.2.2.2.2.2.2.2.1, s.2.2.2.2.2.2.2.2.2.2.2.1, s.2.2.2.2.2.2.2.2.2.2.2.2) := rfl
theorem e_apply8 {g : q_G} {h : q_H} {d b : Nat} {s : ZS} (t : z_S2t h b s) (a c : Int32) (hd : 10 ≤ d) : q_Spec g mX8_apply d 4 24 [.ref b, .ref (3 + 8), .int a, .int c] h (q_chg (q_oI (x_apply 8 a c s).1) (fun h1 => z_S2t h1 b (x_apply 8 a c s).2 ∧ q_same h h1 b 8)) := by
  have e := e_st_apply8 (g := g) (d := d) t a c (by omega)
  rw [x_apply_81, x_apply_82]
  unfold z_S2t
  dsimp only
  exact e
theorem x_apply_91 (a c : Int32) (s : ZS) : (x_apply 9 a c s).1 = (x_st_apply9 s.2.2.2.2.2.2.2.2.1 s.2.2.2.2.2.2.2.2.2.2.1 s.2.2.2.2.2.2.2.2.2.2.2.1).1 := rfl
theorem x_apply_92 (a c : Int32) (s : ZS) : (x_apply 9 a c s).2 = (s.1, s.2.1, s.2.2.1, s.2.2.2.1, s.2.2.2.2.1, s.2.2.2.2.2.1, s.2.2.2.2.2.2.1, s.2.2.2.2.2.2.2.1, (x_st_apply9 s.2.2.2.2.2.2.2.2.1 s.2.2.2.2.2.2.2.2.2.2.1 s.2.2.2.2.2.2.2.2.2.2.2.1).2.1, s.2.2.2.2.2.2.2.2.2.1, (x_st_apply9 s.2.2.2.2.2.2.2.2.1 s.2.2.2.2.2.2.2.2.2.2.1 s.2.2.2.2.2.2.2.2.2.2.2.1).2.2.1, (x_st_apply9 s.2.2.2.2.2.2.2.2.1 s.2.2.2.2.2.2.2.2.2.2.1 s.2.2.2.2.2.2.2.2.2.2.2.1).2.2.2, s.2.2.2.2.2.2.2.2.2.2.2.2) := rfl
theorem e_apply9 {g : q_G} {h : q_H} {d b : Nat} {s : ZS} (t : z_S2t h b s) (a c : Int32) (hd : 10 ≤ d) : q_Spec g mX8_apply d 4 24 [.ref b, .ref (3 + 9), .int a, .int c] h (q_chg (q_oI (x_apply 9 a c s).1) (fun h1 => z_S2t h1 b (x_apply 9 a c s).2 ∧ q_same h h1 b 8)) := by
  have e := e_st_apply9 (g := g) (d := d) t a c (by omega)
  rw [x_apply_91, x_apply_92]
  unfold z_S2t
  dsimp only
  exact e
theorem x_apply_101 (a c : Int32) (s : ZS) : (x_apply 10 a c s).1 = (x_st_apply10 s.1 s.2.2.1 s.2.2.2.1 s.2.2.2.2.1 s.2.2.2.2.2.1 s.2.2.2.2.2.2.2.1 a).1 := rfl
theorem x_apply_102 (a c : Int32) (s : ZS) : (x_apply 10 a c s).2 = (s.1, s.2.1, s.2.2.1, (x_st_apply10 s.1 s.2.2.1 s.2.2.2.1 s.2.2.2.2.1 s.2.2.2.2.2.1 s.2.2.2.2.2.2.2.1 a).2.1, s.2.2.2.2.1, (x_st_apply10 s.1 s.2.2.1 s.2.2.2.1 s.2.2.2.2.1 s.2.2.2.2.2.1 s.2.2.2.2.2.2.2.1 a).2.2.1, s.2.2.2.2.2.2.1, (x_st_apply10 s.1 s.2.2.1 s.2.2.2.1 s.2.2.2.2.1 s.2.2.2.2.2.1 s.2.2.2.2.2.2.2.1 a).2.2.2, s.2.2.2.2.2.2.2.2.1, s.2.2.2.2.2.2.2.2.2.1, s.2.2.2.2.2.2.2.2.2.2.1, s.2.2.2.2.2.2.2.2.2.2.2.1, s.2.2.2.2.2.2.2.2.2.2.2.2) := rfl
theorem e_apply10 {g : q_G} {h : q_H} {d b : Nat} {s : ZS} (t : z_S2t h b s) (a c : Int32) (hd : 10 ≤ d) : q_Spec g mX8_apply d 4 24 [.ref b, .ref (3 + 10), .int a, .int c] h (q_chg (q_oI (x_apply 10 a c s).1) (fun h1 => z_S2t h1 b (x_apply 10 a c s).2 ∧ q_same h h1 b 8)) := by
  have e := e_st_apply10 (g := g) (d := d) t a c (by omega)
  rw [x_apply_101, x_apply_102]
  unfold z_S2t
  dsimp only
  exact e
theorem e_apply {g : q_G} {h : q_H} {d b k : Nat} {s : ZS} (t : z_S2t h b s) (hk : k < 11) (a c : Int32) (hd : 10 ≤ d) : q_Spec g mX8_apply d 4 24 [.ref b, .ref (3 + k), .int a, .int c] h (q_chg (q_oI (x_apply k a c s).1) (fun h1 => z_S2t h1 b (x_apply k a c s).2 ∧ q_same h h1 b 8)) :=
  match k, hk with
  | 0, _ => e_apply0 t a c hd
  | 1, _ => e_apply1 t a c hd
  | 2, _ => e_apply2 t a c hd
  | 3, _ => e_apply3 t a c hd
  | 4, _ => e_apply4 t a c hd
  | 5, _ => e_apply5 t a c hd
  | 6, _ => e_apply6 t a c hd
  | 7, _ => e_apply7 t a c hd
  | 8, _ => e_apply8 t a c hd
  | 9, _ => e_apply9 t a c hd
  | 10, _ => e_apply10 t a c hd
