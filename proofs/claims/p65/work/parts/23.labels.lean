def x_dl_copyFrom (mv : Nat → Int32) (mno : Nat) (mvo : Nat → Int32) (eno : Int32) (woo : Int32) (bro : Int32) : (Nat) × (Nat → Int32) × (Int32) × (Int32) × (Int32) := (mno, va_cpy mvo mv 0 0 12, eno, woo, bro)
set_option maxRecDepth 100000 in
set_option maxHeartbeats 8000000 in
theorem e_dl_copyFrom {g : q_G} {h : q_H} {d : Nat} {b : Nat} {mn : Nat} {mv : Nat → Int32} {en : Int32} {wo : Int32} {br : Int32} (sdl : z_Dl2 h b mn mv en wo br) {bo : Nat} {mno : Nat} {mvo : Nat → Int32} {eno : Int32} {woo : Int32} {bro : Int32} (sdo : z_Dl2 h bo mno mvo eno woo bro)  (hs : b + 2 ≤ bo ∨ bo + 2 ≤ b)  (hd : 1 ≤ d) : q_Spec g mX2_copyFrom d 0 0 [.ref (b), .ref (bo)] h (q_chg (.inl none) (fun h1 => z_Dl2 h1 b ((x_dl_copyFrom mv mno mvo eno woo bro).1) ((x_dl_copyFrom mv mno mvo eno woo bro).2.1) ((x_dl_copyFrom mv mno mvo eno woo bro).2.2.1) ((x_dl_copyFrom mv mno mvo eno woo bro).2.2.2.1) ((x_dl_copyFrom mv mno mvo eno woo bro).2.2.2.2) ∧ z_Dl2 h1 bo mno mvo eno woo bro ∧ q_same h h1 b 2)) := by
  have hr_dl := sdl.r0
  have hb_dl_mn := sdl.bmn
  have hr_do := sdo.r0
  have hb_do_mn := sdo.bmn
  have ho_dl_mn := sdl.bmn
  have ho_do_mn := sdo.bmn
  have p0 : q_same h h b 2 := q_same.rfl'
  refine q_enter (by decide +kernel) rfl rfl (Nat.le_of_ble_eq_true rfl) (fun hz => ?_)
  change q_W _ _ _ _ _ _ _ _ _ [.ref (b), .ref (bo)] [] _
  refine q_aload_n (by first | assumption | omega | decide) dX2_copyFrom_0 rfl ?_
  refine q_getf (k := 0) (v := .ref (bo + 1)) kC_X2 kL_X2_9 rfl (by decide) dX2_copyFrom_1 sdo.c0 rfl ?_
  refine q_iconst (v := 0) dX2_copyFrom_4 rfl ?_
  refine q_aload_n (by first | assumption | omega | decide) dX2_copyFrom_5 rfl ?_
  refine q_getf (k := 0) (v := .ref (b + 1)) kC_X2 kL_X2_9 rfl (by decide) dX2_copyFrom_6 sdl.c0 rfl ?_
  refine q_iconst (v := 0) dX2_copyFrom_9 rfl ?_
  refine q_bipush (v := 12) dX2_copyFrom_10 rfl ?_
  refine q_copy (t := 0) (sp := 0) (dp := 0) (n := 12) kL_X2_28 kO_3 kO_4 kJ_J10 rfl rfl rfl sdo.c1 sdl.c1 (by decide) (by decide) (by decide) (by decide) (by decide) (fun _ _ => rfl) (Nat.le_of_ble_eq_true rfl) (by omega) dX2_copyFrom_12 ?_
  refine z_genW (B := fun H => z_Dl2 H b mn (va_cpy mvo mv 0 0 12) en wo br ∧ z_Dl2 H bo mno mvo eno woo bro ∧ q_same h H b 2) ⟨z_Dl2.put1 sdl, sdo.keep (q_same.set (a := b + 1) (k := 1) (Nat.le_refl _) (by omega)) (by omega), p0.trans (q_same.set (by omega) (by omega))⟩ (fun h1 hB => ?_)
  obtain ⟨sdl1, sdo1, p1⟩ := hB
  have hb_dl_mn := sdl1.bmn
  refine q_aload_n (by first | assumption | omega | decide) dX2_copyFrom_15 rfl ?_
  refine q_aload_n (by first | assumption | omega | decide) dX2_copyFrom_16 rfl ?_
  refine q_getf (k := 1) (v := .int (nI (mno))) kC_X2 kL_X2_15 rfl (by decide) dX2_copyFrom_17 sdo1.c0 rfl ?_
  refine q_putf (k := 1) kC_X2 kL_X2_15 rfl (by decide) rfl dX2_copyFrom_20 sdl1.c0 (Nat.le_of_ble_eq_true rfl) ⟨rfl, rfl⟩ rfl ?_
  refine z_genW (B := fun H => z_Dl2 H b mno (va_cpy mvo mv 0 0 12) en wo br ∧ z_Dl2 H bo mno mvo eno woo bro ∧ q_same h H b 2) ⟨z_Dl2.put0 sdl1 (mn' := mno) (hbmn := by omega), sdo1.keep (q_same.set (a := b) (k := 1) (Nat.le_refl _) (by omega)) (by omega), p1.trans (q_same.set (by omega) (by omega))⟩ (fun h2 hB => ?_)
  obtain ⟨sdl2, sdo2, p2⟩ := hB
  have hb_dl_mn := sdl2.bmn
  refine q_aload_n (by first | assumption | omega | decide) dX2_copyFrom_23 rfl ?_
  refine q_aload_n (by first | assumption | omega | decide) dX2_copyFrom_24 rfl ?_
  refine q_getf (k := 2) (v := .int (eno)) kC_X2 kL_X2_19 rfl (by decide) dX2_copyFrom_25 sdo2.c0 rfl ?_
  refine q_putf (k := 2) kC_X2 kL_X2_19 rfl (by decide) rfl dX2_copyFrom_28 sdl2.c0 (Nat.le_of_ble_eq_true rfl) ⟨rfl, rfl⟩ rfl ?_
  refine z_genW (B := fun H => z_Dl2 H b mno (va_cpy mvo mv 0 0 12) eno wo br ∧ z_Dl2 H bo mno mvo eno woo bro ∧ q_same h H b 2) ⟨z_Dl2.put0 sdl2 (mn' := mno) (hbmn := by omega), sdo2.keep (q_same.set (a := b) (k := 1) (Nat.le_refl _) (by omega)) (by omega), p2.trans (q_same.set (by omega) (by omega))⟩ (fun h3 hB => ?_)
  obtain ⟨sdl3, sdo3, p3⟩ := hB
  have hb_dl_mn := sdl3.bmn
  refine q_aload_n (by first | assumption | omega | decide) dX2_copyFrom_31 rfl ?_
  refine q_aload_n (by first | assumption | omega | decide) dX2_copyFrom_32 rfl ?_
  refine q_getf (k := 3) (v := .int (woo)) kC_X2 kL_X2_22 rfl (by decide) dX2_copyFrom_33 sdo3.c0 rfl ?_
  refine q_putf (k := 3) kC_X2 kL_X2_22 rfl (by decide) rfl dX2_copyFrom_36 sdl3.c0 (Nat.le_of_ble_eq_true rfl) ⟨rfl, rfl⟩ rfl ?_
  refine z_genW (B := fun H => z_Dl2 H b mno (va_cpy mvo mv 0 0 12) eno woo br ∧ z_Dl2 H bo mno mvo eno woo bro ∧ q_same h H b 2) ⟨z_Dl2.put0 sdl3 (mn' := mno) (hbmn := by omega), sdo3.keep (q_same.set (a := b) (k := 1) (Nat.le_refl _) (by omega)) (by omega), p3.trans (q_same.set (by omega) (by omega))⟩ (fun h4 hB => ?_)
  obtain ⟨sdl4, sdo4, p4⟩ := hB
  have hb_dl_mn := sdl4.bmn
  refine q_aload_n (by first | assumption | omega | decide) dX2_copyFrom_39 rfl ?_
  refine q_aload_n (by first | assumption | omega | decide) dX2_copyFrom_40 rfl ?_
  refine q_getf (k := 4) (v := .int (bro)) kC_X2 kL_X2_25 rfl (by decide) dX2_copyFrom_41 sdo4.c0 rfl ?_
  refine q_putf (k := 4) kC_X2 kL_X2_25 rfl (by decide) rfl dX2_copyFrom_44 sdl4.c0 (Nat.le_of_ble_eq_true rfl) ⟨rfl, rfl⟩ rfl ?_
  refine z_genW (B := fun H => z_Dl2 H b mno (va_cpy mvo mv 0 0 12) eno woo bro ∧ z_Dl2 H bo mno mvo eno woo bro ∧ q_same h H b 2) ⟨z_Dl2.put0 sdl4 (mn' := mno) (hbmn := by omega), sdo4.keep (q_same.set (a := b) (k := 1) (Nat.le_refl _) (by omega)) (by omega), p4.trans (q_same.set (by omega) (by omega))⟩ (fun h5 hB => ?_)
  obtain ⟨sdl5, sdo5, p5⟩ := hB
  have hb_dl_mn := sdl5.bmn
  have hE : x_dl_copyFrom mv mno mvo eno woo bro = (mno, va_cpy mvo mv 0 0 12, eno, woo, bro) := by simp only [x_dl_copyFrom]
  rw [hE]
  exact q_return dX2_copyFrom_47 rfl (by omega) (by omega) ⟨rfl, sdl5, sdo5, p5⟩
def x_st_copyFrom (id : Nat → Int32) (wt : Nat → Int32) (ag : Nat → Int32) (tg : Nat → Int32) (att : Nat → Int32) (mv : Nat → Int32) (no : Nat) (ido : Nat → Int32) (wto : Nat → Int32) (ago : Nat → Int32) (tgo : Nat → Int32) (atto : Nat → Int32) (nio : Int32) (dyo : Int32) (mno : Nat) (mvo : Nat → Int32) (eno : Int32) (woo : Int32) (bro : Int32) : (Nat) × (Nat → Int32) × (Nat → Int32) × (Nat → Int32) × (Nat → Int32) × (Nat → Int32) × (Int32) × (Int32) × (Nat) × (Nat → Int32) × (Int32) × (Int32) × (Int32) := (match x_dl_copyFrom mv mno mvo eno woo bro with | (y6_mn, y6_mv, y6_en, y6_wo, y6_br) => (no, va_cpy ido id 0 0 8, va_cpy wto wt 0 0 8, va_cpy ago ag 0 0 8, va_cpy tgo tg 0 0 8, va_cpy atto att 0 0 8, nio, dyo, y6_mn, y6_mv, y6_en, y6_wo, y6_br))
set_option maxRecDepth 100000 in
set_option maxHeartbeats 8000000 in
theorem e_st_copyFrom {g : q_G} {h : q_H} {d : Nat} {a : Nat} {n : Nat} {id : Nat → Int32} {wt : Nat → Int32} {ag : Nat → Int32} {tg : Nat → Int32} {att : Nat → Int32} {ni : Int32} {dy : Int32} {mn : Nat} {mv : Nat → Int32} {en : Int32} {wo : Int32} {br : Int32} (sst : z_S2 h a n id wt ag tg att ni dy mn mv en wo br) {ao : Nat} {no : Nat} {ido : Nat → Int32} {wto : Nat → Int32} {ago : Nat → Int32} {tgo : Nat → Int32} {atto : Nat → Int32} {nio : Int32} {dyo : Int32} {mno : Nat} {mvo : Nat → Int32} {eno : Int32} {woo : Int32} {bro : Int32} (sso : z_S2 h ao no ido wto ago tgo atto nio dyo mno mvo eno woo bro)  (hs : a + 8 ≤ ao ∨ ao + 8 ≤ a)  (hd : 2 ≤ d) : q_Spec g mX8_copyFrom d 0 0 [.ref (a), .ref (ao)] h (q_chg (.inl none) (fun h1 => z_S2 h1 a ((x_st_copyFrom id wt ag tg att mv no ido wto ago tgo atto nio dyo mno mvo eno woo bro).1) ((x_st_copyFrom id wt ag tg att mv no ido wto ago tgo atto nio dyo mno mvo eno woo bro).2.1) ((x_st_copyFrom id wt ag tg att mv no ido wto ago tgo atto nio dyo mno mvo eno woo bro).2.2.1) ((x_st_copyFrom id wt ag tg att mv no ido wto ago tgo atto nio dyo mno mvo eno woo bro).2.2.2.1) ((x_st_copyFrom id wt ag tg att mv no ido wto ago tgo atto nio dyo mno mvo eno woo bro).2.2.2.2.1) ((x_st_copyFrom id wt ag tg att mv no ido wto ago tgo atto nio dyo mno mvo eno woo bro).2.2.2.2.2.1) ((x_st_copyFrom id wt ag tg att mv no ido wto ago tgo atto nio dyo mno mvo eno woo bro).2.2.2.2.2.2.1) ((x_st_copyFrom id wt ag tg att mv no ido wto ago tgo atto nio dyo mno mvo eno woo bro).2.2.2.2.2.2.2.1) ((x_st_copyFrom id wt ag tg att mv no ido wto ago tgo atto nio dyo mno mvo eno woo bro).2.2.2.2.2.2.2.2.1) ((x_st_copyFrom id wt ag tg att mv no ido wto ago tgo atto nio dyo mno mvo eno woo bro).2.2.2.2.2.2.2.2.2.1) ((x_st_copyFrom id wt ag tg att mv no ido wto ago tgo atto nio dyo mno mvo eno woo bro).2.2.2.2.2.2.2.2.2.2.1) ((x_st_copyFrom id wt ag tg att mv no ido wto ago tgo atto nio dyo mno mvo eno woo bro).2.2.2.2.2.2.2.2.2.2.2.1) ((x_st_copyFrom id wt ag tg att mv no ido wto ago tgo atto nio dyo mno mvo eno woo bro).2.2.2.2.2.2.2.2.2.2.2.2) ∧ z_S2 h1 ao no ido wto ago tgo atto nio dyo mno mvo eno woo bro ∧ q_same h h1 a 8)) := by
  have hr_st := sst.r0
  have hb_st_n := sst.bn
  have hb_st_mn := sst.bmn
  have hr_so := sso.r0
  have hb_so_n := sso.bn
  have hb_so_mn := sso.bmn
  have ho_st_n := sst.bn
  have ho_st_mn := sst.bmn
  have ho_so_n := sso.bn
  have ho_so_mn := sso.bmn
  have p0 : q_same h h a 8 := q_same.rfl'
  refine q_enter (by decide +kernel) rfl rfl (Nat.le_of_ble_eq_true rfl) (fun hz => ?_)
  change q_W _ _ _ _ _ _ _ _ _ [.ref (a), .ref (ao)] [] _
  refine q_aload_n (by first | assumption | omega | decide) dX8_copyFrom_0 rfl ?_
  refine q_getf (k := 0) (v := .ref (ao + 1)) kC_X8 kL_X8_9 rfl (by decide) dX8_copyFrom_1 sso.c0 rfl ?_
  refine q_iconst (v := 0) dX8_copyFrom_4 rfl ?_
  refine q_aload_n (by first | assumption | omega | decide) dX8_copyFrom_5 rfl ?_
  refine q_getf (k := 0) (v := .ref (a + 1)) kC_X8 kL_X8_9 rfl (by decide) dX8_copyFrom_6 sst.c0 rfl ?_
  refine q_iconst (v := 0) dX8_copyFrom_9 rfl ?_
  refine q_bipush (v := 8) dX8_copyFrom_10 rfl ?_
  refine q_copy (t := 0) (sp := 0) (dp := 0) (n := 8) kL_X8_44 kO_3 kO_4 kJ_J10 rfl rfl rfl sso.c1 sst.c1 (by decide) (by decide) (by decide) (by decide) (by decide) (fun _ _ => rfl) (Nat.le_of_ble_eq_true rfl) (by omega) dX8_copyFrom_12 ?_
  refine z_genW (B := fun H => z_S2 H a n (va_cpy ido id 0 0 8) wt ag tg att ni dy mn mv en wo br ∧ z_S2 H ao no ido wto ago tgo atto nio dyo mno mvo eno woo bro ∧ q_same h H a 8) ⟨z_S2.put1 sst, sso.keep (q_same.set (a := a + 1) (k := 1) (Nat.le_refl _) (by omega)) (by omega), p0.trans (q_same.set (by omega) (by omega))⟩ (fun h1 hB => ?_)
  obtain ⟨sst1, sso1, p1⟩ := hB
  have hb_st_n := sst1.bn
  have hb_st_mn := sst1.bmn
  refine q_aload_n (by first | assumption | omega | decide) dX8_copyFrom_15 rfl ?_
  refine q_getf (k := 1) (v := .ref (ao + 2)) kC_X8 kL_X8_15 rfl (by decide) dX8_copyFrom_16 sso1.c0 rfl ?_
  refine q_iconst (v := 0) dX8_copyFrom_19 rfl ?_
  refine q_aload_n (by first | assumption | omega | decide) dX8_copyFrom_20 rfl ?_
  refine q_getf (k := 1) (v := .ref (a + 2)) kC_X8 kL_X8_15 rfl (by decide) dX8_copyFrom_21 sst1.c0 rfl ?_
  refine q_iconst (v := 0) dX8_copyFrom_24 rfl ?_
  refine q_bipush (v := 8) dX8_copyFrom_25 rfl ?_
  refine q_copy (t := 0) (sp := 0) (dp := 0) (n := 8) kL_X8_44 kO_3 kO_4 kJ_J10 rfl rfl rfl sso1.c2 sst1.c2 (by decide) (by decide) (by decide) (by decide) (by decide) (fun _ _ => rfl) (Nat.le_of_ble_eq_true rfl) (by omega) dX8_copyFrom_27 ?_
  refine z_genW (B := fun H => z_S2 H a n (va_cpy ido id 0 0 8) (va_cpy wto wt 0 0 8) ag tg att ni dy mn mv en wo br ∧ z_S2 H ao no ido wto ago tgo atto nio dyo mno mvo eno woo bro ∧ q_same h H a 8) ⟨z_S2.put2 sst1, sso1.keep (q_same.set (a := a + 2) (k := 1) (Nat.le_refl _) (by omega)) (by omega), p1.trans (q_same.set (by omega) (by omega))⟩ (fun h2 hB => ?_)
  obtain ⟨sst2, sso2, p2⟩ := hB
  have hb_st_n := sst2.bn
  have hb_st_mn := sst2.bmn
  refine q_aload_n (by first | assumption | omega | decide) dX8_copyFrom_30 rfl ?_
  refine q_getf (k := 2) (v := .ref (ao + 3)) kC_X8 kL_X8_18 rfl (by decide) dX8_copyFrom_31 sso2.c0 rfl ?_
  refine q_iconst (v := 0) dX8_copyFrom_34 rfl ?_
  refine q_aload_n (by first | assumption | omega | decide) dX8_copyFrom_35 rfl ?_
  refine q_getf (k := 2) (v := .ref (a + 3)) kC_X8 kL_X8_18 rfl (by decide) dX8_copyFrom_36 sst2.c0 rfl ?_
  refine q_iconst (v := 0) dX8_copyFrom_39 rfl ?_
  refine q_bipush (v := 8) dX8_copyFrom_40 rfl ?_
  refine q_copy (t := 0) (sp := 0) (dp := 0) (n := 8) kL_X8_44 kO_3 kO_4 kJ_J10 rfl rfl rfl sso2.c3 sst2.c3 (by decide) (by decide) (by decide) (by decide) (by decide) (fun _ _ => rfl) (Nat.le_of_ble_eq_true rfl) (by omega) dX8_copyFrom_42 ?_
  refine z_genW (B := fun H => z_S2 H a n (va_cpy ido id 0 0 8) (va_cpy wto wt 0 0 8) (va_cpy ago ag 0 0 8) tg att ni dy mn mv en wo br ∧ z_S2 H ao no ido wto ago tgo atto nio dyo mno mvo eno woo bro ∧ q_same h H a 8) ⟨z_S2.put3 sst2, sso2.keep (q_same.set (a := a + 3) (k := 1) (Nat.le_refl _) (by omega)) (by omega), p2.trans (q_same.set (by omega) (by omega))⟩ (fun h3 hB => ?_)
  obtain ⟨sst3, sso3, p3⟩ := hB
  have hb_st_n := sst3.bn
  have hb_st_mn := sst3.bmn
  refine q_aload_n (by first | assumption | omega | decide) dX8_copyFrom_45 rfl ?_
  refine q_getf (k := 3) (v := .ref (ao + 4)) kC_X8 kL_X8_21 rfl (by decide) dX8_copyFrom_46 sso3.c0 rfl ?_
  refine q_iconst (v := 0) dX8_copyFrom_49 rfl ?_
  refine q_aload_n (by first | assumption | omega | decide) dX8_copyFrom_50 rfl ?_
  refine q_getf (k := 3) (v := .ref (a + 4)) kC_X8 kL_X8_21 rfl (by decide) dX8_copyFrom_51 sst3.c0 rfl ?_
  refine q_iconst (v := 0) dX8_copyFrom_54 rfl ?_
  refine q_bipush (v := 8) dX8_copyFrom_55 rfl ?_
  refine q_copy (t := 0) (sp := 0) (dp := 0) (n := 8) kL_X8_44 kO_3 kO_4 kJ_J10 rfl rfl rfl sso3.c4 sst3.c4 (by decide) (by decide) (by decide) (by decide) (by decide) (fun _ _ => rfl) (Nat.le_of_ble_eq_true rfl) (by omega) dX8_copyFrom_57 ?_
  refine z_genW (B := fun H => z_S2 H a n (va_cpy ido id 0 0 8) (va_cpy wto wt 0 0 8) (va_cpy ago ag 0 0 8) (va_cpy tgo tg 0 0 8) att ni dy mn mv en wo br ∧ z_S2 H ao no ido wto ago tgo atto nio dyo mno mvo eno woo bro ∧ q_same h H a 8) ⟨z_S2.put4 sst3, sso3.keep (q_same.set (a := a + 4) (k := 1) (Nat.le_refl _) (by omega)) (by omega), p3.trans (q_same.set (by omega) (by omega))⟩ (fun h4 hB => ?_)
  obtain ⟨sst4, sso4, p4⟩ := hB
  have hb_st_n := sst4.bn
  have hb_st_mn := sst4.bmn
  refine q_aload_n (by first | assumption | omega | decide) dX8_copyFrom_60 rfl ?_
  refine q_getf (k := 4) (v := .ref (ao + 5)) kC_X8 kL_X8_24 rfl (by decide) dX8_copyFrom_61 sso4.c0 rfl ?_
  refine q_iconst (v := 0) dX8_copyFrom_64 rfl ?_
  refine q_aload_n (by first | assumption | omega | decide) dX8_copyFrom_65 rfl ?_
  refine q_getf (k := 4) (v := .ref (a + 5)) kC_X8 kL_X8_24 rfl (by decide) dX8_copyFrom_66 sst4.c0 rfl ?_
  refine q_iconst (v := 0) dX8_copyFrom_69 rfl ?_
  refine q_bipush (v := 8) dX8_copyFrom_70 rfl ?_
  refine q_copy (t := 0) (sp := 0) (dp := 0) (n := 8) kL_X8_44 kO_3 kO_4 kJ_J10 rfl rfl rfl sso4.c5 sst4.c5 (by decide) (by decide) (by decide) (by decide) (by decide) (fun _ _ => rfl) (Nat.le_of_ble_eq_true rfl) (by omega) dX8_copyFrom_72 ?_
  refine z_genW (B := fun H => z_S2 H a n (va_cpy ido id 0 0 8) (va_cpy wto wt 0 0 8) (va_cpy ago ag 0 0 8) (va_cpy tgo tg 0 0 8) (va_cpy atto att 0 0 8) ni dy mn mv en wo br ∧ z_S2 H ao no ido wto ago tgo atto nio dyo mno mvo eno woo bro ∧ q_same h H a 8) ⟨z_S2.put5 sst4, sso4.keep (q_same.set (a := a + 5) (k := 1) (Nat.le_refl _) (by omega)) (by omega), p4.trans (q_same.set (by omega) (by omega))⟩ (fun h5 hB => ?_)
  obtain ⟨sst5, sso5, p5⟩ := hB
  have hb_st_n := sst5.bn
  have hb_st_mn := sst5.bmn
  refine q_aload_n (by first | assumption | omega | decide) dX8_copyFrom_75 rfl ?_
  refine q_getf (k := 5) (v := .ref (a + 6)) kC_X8 kL_X8_30 rfl (by decide) dX8_copyFrom_76 sst5.c0 rfl ?_
  refine q_aload_n (by first | assumption | omega | decide) dX8_copyFrom_79 rfl ?_
  refine q_getf (k := 5) (v := .ref (ao + 6)) kC_X8 kL_X8_30 rfl (by decide) dX8_copyFrom_80 sso5.c0 rfl ?_
  rcases x6 : x_dl_copyFrom mv mno mvo eno woo bro with ⟨y6_mn, y6_mv, y6_en, y6_wo, y6_br⟩
  have e9 := e_dl_copyFrom (g := g) (h := h5) (d := d - 1) (sst5.dl) (sso5.dl) (by omega) (by omega)
  rw [x6] at e9
  refine q_invV (mc' := 0) (ms' := 0) (d' := d - 1) (as := [.ref (ao + 6)]) dX8_copyFrom_83 kM_X2_copyFrom kL_X8_50 kI_X2_copyFrom kS_X2_copyFrom rfl (kC_X2.1) sst5.c6 rfl rfl (Nat.le_of_ble_eq_true rfl) (by omega) (by decide) (by omega) (by omega) (e9) (q_kC (fun h7 hB => ?_)) q_xC
  obtain ⟨t7_0, t7_1, pp7⟩ := hB
  have sst7 := sst5.ofdl t7_0 pp7
  have sso7 := sso5.keep pp7 (by omega)
  have p7 := p5.trans (pp7.wide (by omega) (by omega))
  have hb_st_n := sst7.bn
  have hb_st_mn := sst7.bmn
  change q_W _ _ _ _ _ _ _ _ 86 [.ref (a), .ref (ao)] [] _
  refine q_aload_n (by first | assumption | omega | decide) dX8_copyFrom_86 rfl ?_
  refine q_aload_n (by first | assumption | omega | decide) dX8_copyFrom_87 rfl ?_
  refine q_getf (k := 6) (v := .int (nI (no))) kC_X8 kL_X8_34 rfl (by decide) dX8_copyFrom_88 sso7.c0 rfl ?_
  refine q_putf (k := 6) kC_X8 kL_X8_34 rfl (by decide) rfl dX8_copyFrom_91 sst7.c0 (Nat.le_of_ble_eq_true rfl) ⟨rfl, rfl⟩ rfl ?_
  refine z_genW (B := fun H => z_S2 H a no (va_cpy ido id 0 0 8) (va_cpy wto wt 0 0 8) (va_cpy ago ag 0 0 8) (va_cpy tgo tg 0 0 8) (va_cpy atto att 0 0 8) ni dy y6_mn y6_mv y6_en y6_wo y6_br ∧ z_S2 H ao no ido wto ago tgo atto nio dyo mno mvo eno woo bro ∧ q_same h H a 8) ⟨z_S2.put0 sst7 (n' := no) (hbn := by omega), sso7.keep (q_same.set (a := a) (k := 1) (Nat.le_refl _) (by omega)) (by omega), p7.trans (q_same.set (by omega) (by omega))⟩ (fun h8 hB => ?_)
  obtain ⟨sst8, sso8, p8⟩ := hB
  have hb_st_n := sst8.bn
  have hb_st_mn := sst8.bmn
  refine q_aload_n (by first | assumption | omega | decide) dX8_copyFrom_94 rfl ?_
  refine q_aload_n (by first | assumption | omega | decide) dX8_copyFrom_95 rfl ?_
  refine q_getf (k := 7) (v := .int (nio)) kC_X8 kL_X8_38 rfl (by decide) dX8_copyFrom_96 sso8.c0 rfl ?_
  refine q_putf (k := 7) kC_X8 kL_X8_38 rfl (by decide) rfl dX8_copyFrom_99 sst8.c0 (Nat.le_of_ble_eq_true rfl) ⟨rfl, rfl⟩ rfl ?_
  refine z_genW (B := fun H => z_S2 H a no (va_cpy ido id 0 0 8) (va_cpy wto wt 0 0 8) (va_cpy ago ag 0 0 8) (va_cpy tgo tg 0 0 8) (va_cpy atto att 0 0 8) nio dy y6_mn y6_mv y6_en y6_wo y6_br ∧ z_S2 H ao no ido wto ago tgo atto nio dyo mno mvo eno woo bro ∧ q_same h H a 8) ⟨z_S2.put0 sst8 (n' := no) (hbn := by omega), sso8.keep (q_same.set (a := a) (k := 1) (Nat.le_refl _) (by omega)) (by omega), p8.trans (q_same.set (by omega) (by omega))⟩ (fun h9 hB => ?_)
  obtain ⟨sst9, sso9, p9⟩ := hB
  have hb_st_n := sst9.bn
  have hb_st_mn := sst9.bmn
  refine q_aload_n (by first | assumption | omega | decide) dX8_copyFrom_102 rfl ?_
  refine q_aload_n (by first | assumption | omega | decide) dX8_copyFrom_103 rfl ?_
  refine q_getf (k := 8) (v := .int (dyo)) kC_X8 kL_X8_41 rfl (by decide) dX8_copyFrom_104 sso9.c0 rfl ?_
  refine q_putf (k := 8) kC_X8 kL_X8_41 rfl (by decide) rfl dX8_copyFrom_107 sst9.c0 (Nat.le_of_ble_eq_true rfl) ⟨rfl, rfl⟩ rfl ?_
  refine z_genW (B := fun H => z_S2 H a no (va_cpy ido id 0 0 8) (va_cpy wto wt 0 0 8) (va_cpy ago ag 0 0 8) (va_cpy tgo tg 0 0 8) (va_cpy atto att 0 0 8) nio dyo y6_mn y6_mv y6_en y6_wo y6_br ∧ z_S2 H ao no ido wto ago tgo atto nio dyo mno mvo eno woo bro ∧ q_same h H a 8) ⟨z_S2.put0 sst9 (n' := no) (hbn := by omega), sso9.keep (q_same.set (a := a) (k := 1) (Nat.le_refl _) (by omega)) (by omega), p9.trans (q_same.set (by omega) (by omega))⟩ (fun h10 hB => ?_)
  obtain ⟨sst10, sso10, p10⟩ := hB
  have hb_st_n := sst10.bn
  have hb_st_mn := sst10.bmn
  have hE : x_st_copyFrom id wt ag tg att mv no ido wto ago tgo atto nio dyo mno mvo eno woo bro = (no, va_cpy ido id 0 0 8, va_cpy wto wt 0 0 8, va_cpy ago ag 0 0 8, va_cpy tgo tg 0 0 8, va_cpy atto att 0 0 8, nio, dyo, y6_mn, y6_mv, y6_en, y6_wo, y6_br) := by simp only [x_st_copyFrom, x6]
  rw [hE]
  exact q_return dX8_copyFrom_110 rfl (by omega) (by omega) ⟨rfl, sst10, sso10, p10⟩
def z_Lb (h : q_H) (b : Nat) (ac : Int32) (rj : Int32) (ro : Nat → Int32) : Prop :=
  q_R0 ≤ b ∧
  b + 2 ≤ h.1 ∧
  h.2 (b) = some (.inr (8, [.ref (b + 1), .int (ac), .int (rj)])) ∧
  h.2 (b + 1) = some (.inl (0, 8, .inl (ro)))
theorem z_Lb.r0 {h : q_H} {b : Nat} {ac : Int32} {rj : Int32} {ro : Nat → Int32} (s : z_Lb h b ac rj ro) : q_R0 ≤ b := s.1
theorem z_Lb.s0 {h : q_H} {b : Nat} {ac : Int32} {rj : Int32} {ro : Nat → Int32} (s : z_Lb h b ac rj ro) : b + 2 ≤ h.1 := s.2.1
theorem z_Lb.c0 {h : q_H} {b : Nat} {ac : Int32} {rj : Int32} {ro : Nat → Int32} (s : z_Lb h b ac rj ro) : h.2 (b) = some (.inr (8, [.ref (b + 1), .int (ac), .int (rj)])) := s.2.2.1
theorem z_Lb.c1 {h : q_H} {b : Nat} {ac : Int32} {rj : Int32} {ro : Nat → Int32} (s : z_Lb h b ac rj ro) : h.2 (b + 1) = some (.inl (0, 8, .inl (ro))) := s.2.2.2
theorem z_Lb.keep {h1 : q_H} {b1 k1 : Nat} {h : q_H} {b : Nat} {ac : Int32} {rj : Int32} {ro : Nat → Int32} (s : z_Lb h b ac rj ro) (q : q_same h h1 b1 k1) (hx : b + 2 ≤ b1 ∨ b1 + k1 ≤ b) : z_Lb h1 b ac rj ro := by
  obtain ⟨w0, w1, w2, w3⟩ := s
  exact ⟨w0, Nat.le_trans w1 q.1, (q.2 _ (by omega) (by omega)).trans w2, (q.2 _ (by omega) (by omega)).trans w3⟩
theorem z_Lb.put0 {h : q_H} {b : Nat} {ac : Int32} {rj : Int32} {ro : Nat → Int32} (s : z_Lb h b ac rj ro) {ac' : Int32} {rj' : Int32}   : z_Lb (q_set h (b) (.inr (8, [.ref (b + 1), .int (ac'), .int (rj')]))) b ac' rj' ro := by
  obtain ⟨w0, w1, w2, w3⟩ := s
  exact ⟨w0, w1, q_set_eq, (q_set_ne (by omega)).trans w3⟩
theorem z_Lb.put1 {h : q_H} {b : Nat} {ac : Int32} {rj : Int32} {ro : Nat → Int32} (s : z_Lb h b ac rj ro) {ro' : Nat → Int32}   : z_Lb (q_set h (b + 1) (.inl (0, 8, .inl (ro')))) b ac rj ro' := by
  obtain ⟨w0, w1, w2, w3⟩ := s
  exact ⟨w0, w1, (q_set_ne (by omega)).trans w2, q_set_eq⟩
def z_Ga (h : q_H) (b : Nat) (won : Nat → Int32) (lost : Nat → Int32) : Prop :=
  q_R0 ≤ b ∧
  b + 3 ≤ h.1 ∧
  h.2 (b) = some (.inr (6, [.ref (b + 1), .ref (b + 2)])) ∧
  h.2 (b + 1) = some (.inl (0, 256, .inl (won))) ∧
  h.2 (b + 2) = some (.inl (0, 256, .inl (lost)))
theorem z_Ga.r0 {h : q_H} {b : Nat} {won : Nat → Int32} {lost : Nat → Int32} (s : z_Ga h b won lost) : q_R0 ≤ b := s.1
theorem z_Ga.s0 {h : q_H} {b : Nat} {won : Nat → Int32} {lost : Nat → Int32} (s : z_Ga h b won lost) : b + 3 ≤ h.1 := s.2.1
theorem z_Ga.c0 {h : q_H} {b : Nat} {won : Nat → Int32} {lost : Nat → Int32} (s : z_Ga h b won lost) : h.2 (b) = some (.inr (6, [.ref (b + 1), .ref (b + 2)])) := s.2.2.1
theorem z_Ga.c1 {h : q_H} {b : Nat} {won : Nat → Int32} {lost : Nat → Int32} (s : z_Ga h b won lost) : h.2 (b + 1) = some (.inl (0, 256, .inl (won))) := s.2.2.2.1
theorem z_Ga.c2 {h : q_H} {b : Nat} {won : Nat → Int32} {lost : Nat → Int32} (s : z_Ga h b won lost) : h.2 (b + 2) = some (.inl (0, 256, .inl (lost))) := s.2.2.2.2
theorem z_Ga.keep {h1 : q_H} {b1 k1 : Nat} {h : q_H} {b : Nat} {won : Nat → Int32} {lost : Nat → Int32} (s : z_Ga h b won lost) (q : q_same h h1 b1 k1) (hx : b + 3 ≤ b1 ∨ b1 + k1 ≤ b) : z_Ga h1 b won lost := by
  obtain ⟨w0, w1, w2, w3, w4⟩ := s
  exact ⟨w0, Nat.le_trans w1 q.1, (q.2 _ (by omega) (by omega)).trans w2, (q.2 _ (by omega) (by omega)).trans w3, (q.2 _ (by omega) (by omega)).trans w4⟩
theorem z_Ga.put1 {h : q_H} {b : Nat} {won : Nat → Int32} {lost : Nat → Int32} (s : z_Ga h b won lost) {won' : Nat → Int32}   : z_Ga (q_set h (b + 1) (.inl (0, 256, .inl (won')))) b won' lost := by
  obtain ⟨w0, w1, w2, w3, w4⟩ := s
  exact ⟨w0, w1, (q_set_ne (by omega)).trans w2, q_set_eq, (q_set_ne (by omega)).trans w4⟩
theorem z_Ga.put2 {h : q_H} {b : Nat} {won : Nat → Int32} {lost : Nat → Int32} (s : z_Ga h b won lost) {lost' : Nat → Int32}   : z_Ga (q_set h (b + 2) (.inl (0, 256, .inl (lost')))) b won lost' := by
  obtain ⟨w0, w1, w2, w3, w4⟩ := s
  exact ⟨w0, w1, (q_set_ne (by omega)).trans w2, (q_set_ne (by omega)).trans w3, q_set_eq⟩
def z_I256 (h : q_H) (b : Nat) (f : Nat → Int32) : Prop :=
  q_R0 ≤ b ∧
  b + 1 ≤ h.1 ∧
  h.2 (b) = some (.inl (0, 256, .inl (f)))
theorem z_I256.r0 {h : q_H} {b : Nat} {f : Nat → Int32} (s : z_I256 h b f) : q_R0 ≤ b := s.1
theorem z_I256.s0 {h : q_H} {b : Nat} {f : Nat → Int32} (s : z_I256 h b f) : b + 1 ≤ h.1 := s.2.1
theorem z_I256.c0 {h : q_H} {b : Nat} {f : Nat → Int32} (s : z_I256 h b f) : h.2 (b) = some (.inl (0, 256, .inl (f))) := s.2.2
theorem z_I256.keep {h1 : q_H} {b1 k1 : Nat} {h : q_H} {b : Nat} {f : Nat → Int32} (s : z_I256 h b f) (q : q_same h h1 b1 k1) (hx : b + 1 ≤ b1 ∨ b1 + k1 ≤ b) : z_I256 h1 b f := by
  obtain ⟨w0, w1, w2⟩ := s
  exact ⟨w0, Nat.le_trans w1 q.1, (q.2 _ (by omega) (by omega)).trans w2⟩
theorem z_I256.put0 {h : q_H} {b : Nat} {f : Nat → Int32} (s : z_I256 h b f) {f' : Nat → Int32}   : z_I256 (q_set h (b) (.inl (0, 256, .inl (f')))) b f' := by
  obtain ⟨w0, w1, w2⟩ := s
  exact ⟨w0, w1, q_set_eq⟩
def z_I8 (h : q_H) (b : Nat) (f : Nat → Int32) : Prop :=
  q_R0 ≤ b ∧
  b + 1 ≤ h.1 ∧
  h.2 (b) = some (.inl (0, 8, .inl (f)))
theorem z_I8.r0 {h : q_H} {b : Nat} {f : Nat → Int32} (s : z_I8 h b f) : q_R0 ≤ b := s.1
theorem z_I8.s0 {h : q_H} {b : Nat} {f : Nat → Int32} (s : z_I8 h b f) : b + 1 ≤ h.1 := s.2.1
theorem z_I8.c0 {h : q_H} {b : Nat} {f : Nat → Int32} (s : z_I8 h b f) : h.2 (b) = some (.inl (0, 8, .inl (f))) := s.2.2
theorem z_I8.keep {h1 : q_H} {b1 k1 : Nat} {h : q_H} {b : Nat} {f : Nat → Int32} (s : z_I8 h b f) (q : q_same h h1 b1 k1) (hx : b + 1 ≤ b1 ∨ b1 + k1 ≤ b) : z_I8 h1 b f := by
  obtain ⟨w0, w1, w2⟩ := s
  exact ⟨w0, Nat.le_trans w1 q.1, (q.2 _ (by omega) (by omega)).trans w2⟩
theorem z_I8.put0 {h : q_H} {b : Nat} {f : Nat → Int32} (s : z_I8 h b f) {f' : Nat → Int32}   : z_I8 (q_set h (b) (.inl (0, 8, .inl (f')))) b f' := by
  obtain ⟨w0, w1, w2⟩ := s
  exact ⟨w0, w1, q_set_eq⟩
def z_Ex (h : q_H) (b : Nat) (pf : Nat → Int32) (cv : Nat → Int32) (sc : Nat) : Prop :=
  q_R0 ≤ b ∧
  b + 3 ≤ h.1 ∧
  sc ≤ 256 ∧
  h.2 (b) = some (.inr (5, [.ref (b + 1), .ref (b + 2), .int (nI (sc))])) ∧
  h.2 (b + 1) = some (.inl (1, 256, .inl (pf))) ∧
  h.2 (b + 2) = some (.inl (1, 256, .inl (cv)))
theorem z_Ex.r0 {h : q_H} {b : Nat} {pf : Nat → Int32} {cv : Nat → Int32} {sc : Nat} (s : z_Ex h b pf cv sc) : q_R0 ≤ b := s.1
theorem z_Ex.s0 {h : q_H} {b : Nat} {pf : Nat → Int32} {cv : Nat → Int32} {sc : Nat} (s : z_Ex h b pf cv sc) : b + 3 ≤ h.1 := s.2.1
theorem z_Ex.bsc {h : q_H} {b : Nat} {pf : Nat → Int32} {cv : Nat → Int32} {sc : Nat} (s : z_Ex h b pf cv sc) : sc ≤ 256 := s.2.2.1
theorem z_Ex.c0 {h : q_H} {b : Nat} {pf : Nat → Int32} {cv : Nat → Int32} {sc : Nat} (s : z_Ex h b pf cv sc) : h.2 (b) = some (.inr (5, [.ref (b + 1), .ref (b + 2), .int (nI (sc))])) := s.2.2.2.1
theorem z_Ex.c1 {h : q_H} {b : Nat} {pf : Nat → Int32} {cv : Nat → Int32} {sc : Nat} (s : z_Ex h b pf cv sc) : h.2 (b + 1) = some (.inl (1, 256, .inl (pf))) := s.2.2.2.2.1
theorem z_Ex.c2 {h : q_H} {b : Nat} {pf : Nat → Int32} {cv : Nat → Int32} {sc : Nat} (s : z_Ex h b pf cv sc) : h.2 (b + 2) = some (.inl (1, 256, .inl (cv))) := s.2.2.2.2.2
theorem z_Ex.keep {h1 : q_H} {b1 k1 : Nat} {h : q_H} {b : Nat} {pf : Nat → Int32} {cv : Nat → Int32} {sc : Nat} (s : z_Ex h b pf cv sc) (q : q_same h h1 b1 k1) (hx : b + 3 ≤ b1 ∨ b1 + k1 ≤ b) : z_Ex h1 b pf cv sc := by
  obtain ⟨w0, w1, w2, w3, w4, w5⟩ := s
  exact ⟨w0, Nat.le_trans w1 q.1, w2, (q.2 _ (by omega) (by omega)).trans w3, (q.2 _ (by omega) (by omega)).trans w4, (q.2 _ (by omega) (by omega)).trans w5⟩
theorem z_Ex.put0 {h : q_H} {b : Nat} {pf : Nat → Int32} {cv : Nat → Int32} {sc : Nat} (s : z_Ex h b pf cv sc) {sc' : Nat} (hbsc : sc' ≤ 256)  : z_Ex (q_set h (b) (.inr (5, [.ref (b + 1), .ref (b + 2), .int (nI (sc'))]))) b pf cv sc' := by
  obtain ⟨w0, w1, w2, w3, w4, w5⟩ := s
  exact ⟨w0, w1, hbsc, q_set_eq, (q_set_ne (by omega)).trans w4, (q_set_ne (by omega)).trans w5⟩
theorem z_Ex.put1 {h : q_H} {b : Nat} {pf : Nat → Int32} {cv : Nat → Int32} {sc : Nat} (s : z_Ex h b pf cv sc) {pf' : Nat → Int32}   : z_Ex (q_set h (b + 1) (.inl (1, 256, .inl (pf')))) b pf' cv sc := by
  obtain ⟨w0, w1, w2, w3, w4, w5⟩ := s
  exact ⟨w0, w1, w2, (q_set_ne (by omega)).trans w3, q_set_eq, (q_set_ne (by omega)).trans w5⟩
theorem z_Ex.put2 {h : q_H} {b : Nat} {pf : Nat → Int32} {cv : Nat → Int32} {sc : Nat} (s : z_Ex h b pf cv sc) {cv' : Nat → Int32}   : z_Ex (q_set h (b + 2) (.inl (1, 256, .inl (cv')))) b pf cv' sc := by
  obtain ⟨w0, w1, w2, w3, w4, w5⟩ := s
  exact ⟨w0, w1, w2, (q_set_ne (by omega)).trans w3, (q_set_ne (by omega)).trans w4, q_set_eq⟩
theorem z_S2.p5 {h : q_H} {b : Nat} {n : Nat} {id : Nat → Int32} {wt : Nat → Int32} {ag : Nat → Int32} {tg : Nat → Int32} {att : Nat → Int32} {ni : Int32} {dy : Int32} {mn : Nat} {mv : Nat → Int32} {en : Int32} {wo : Int32} {br : Int32} (s : z_S2 h b n id wt ag tg att ni dy mn mv en wo br) : z_I8 h (b + 5) att := by
  obtain ⟨w0, w1, w2, w3, w4, w5, w6, w7, w8, w9, w10, w11⟩ := s
  exact ⟨by omega, by omega, w9⟩
theorem z_S2.ofp5 {h h1 : q_H} {b : Nat} {n : Nat} {id : Nat → Int32} {wt : Nat → Int32} {ag : Nat → Int32} {tg : Nat → Int32} {att : Nat → Int32} {ni : Int32} {dy : Int32} {mn : Nat} {mv : Nat → Int32} {en : Int32} {wo : Int32} {br : Int32} (s : z_S2 h b n id wt ag tg att ni dy mn mv en wo br) {g' : Nat → Int32} (t : z_I8 h1 (b + 5) g') (q : q_same h h1 (b + 5) 1) : z_S2 h1 b n id wt ag tg g' ni dy mn mv en wo br := by
  obtain ⟨w0, w1, w2, w3, w4, w5, w6, w7, w8, w9, w10, w11⟩ := s
  obtain ⟨-, -, v2⟩ := t
  exact ⟨w0, Nat.le_trans w1 q.1, w2, w3, (q.2 _ (by omega) (by omega)).trans w4, (q.2 _ (by omega) (by omega)).trans w5, (q.2 _ (by omega) (by omega)).trans w6, (q.2 _ (by omega) (by omega)).trans w7, (q.2 _ (by omega) (by omega)).trans w8, v2, (q.2 _ (by omega) (by omega)).trans w10, (q.2 _ (by omega) (by omega)).trans w11⟩
theorem z_Ga.p1 {h : q_H} {b : Nat} {won : Nat → Int32} {lost : Nat → Int32} (s : z_Ga h b won lost) : z_I256 h (b + 1) won := by
  obtain ⟨w0, w1, w2, w3, w4⟩ := s
  exact ⟨by omega, by omega, w3⟩
theorem z_Ga.ofp1 {h h1 : q_H} {b : Nat} {won : Nat → Int32} {lost : Nat → Int32} (s : z_Ga h b won lost) {g' : Nat → Int32} (t : z_I256 h1 (b + 1) g') (q : q_same h h1 (b + 1) 1) : z_Ga h1 b g' lost := by
  obtain ⟨w0, w1, w2, w3, w4⟩ := s
  obtain ⟨-, -, v2⟩ := t
  exact ⟨w0, Nat.le_trans w1 q.1, (q.2 _ (by omega) (by omega)).trans w2, v2, (q.2 _ (by omega) (by omega)).trans w4⟩
theorem z_Ga.p2 {h : q_H} {b : Nat} {won : Nat → Int32} {lost : Nat → Int32} (s : z_Ga h b won lost) : z_I256 h (b + 2) lost := by
  obtain ⟨w0, w1, w2, w3, w4⟩ := s
  exact ⟨by omega, by omega, w4⟩
theorem z_Ga.ofp2 {h h1 : q_H} {b : Nat} {won : Nat → Int32} {lost : Nat → Int32} (s : z_Ga h b won lost) {g' : Nat → Int32} (t : z_I256 h1 (b + 2) g') (q : q_same h h1 (b + 2) 1) : z_Ga h1 b won g' := by
  obtain ⟨w0, w1, w2, w3, w4⟩ := s
  obtain ⟨-, -, v2⟩ := t
  exact ⟨w0, Nat.le_trans w1 q.1, (q.2 _ (by omega) (by omega)).trans w2, (q.2 _ (by omega) (by omega)).trans w3, v2⟩
def x_lb_letter (ac : Int32) (rj : Int32) (j : Nat) : Int32 := (if z_has ac j then 97 else (if z_has rj j then 114 else 117))
set_option maxRecDepth 100000 in
set_option maxHeartbeats 8000000 in
theorem e_lb_letter {g : q_G} {h : q_H} {d : Nat} {l : Nat} {ac : Int32} {rj : Int32} {ro : Nat → Int32} (slb : z_Lb h l ac rj ro) (j : Nat)   (hd : 1 ≤ d) : q_Spec g mX6_letter d 0 0 [.ref (l), .int (nI (j))] h (q_ret ((some (.int (x_lb_letter ac rj j)))) h) := by
  have hr_lb := slb.r0
  refine q_enter (by decide +kernel) rfl rfl (Nat.le_of_ble_eq_true rfl) (fun hz => ?_)
  change q_W _ _ _ _ _ _ _ _ _ [.ref (l), .int (nI (j))] [] _
  refine q_aload_n (by first | assumption | omega | decide) dX6_letter_0 rfl ?_
  refine q_getf (k := 1) (v := .int (ac)) kC_X6 kL_X6_15 rfl (by decide) dX6_letter_1 slb.c0 rfl ?_
  refine q_iload_n dX6_letter_4 rfl ?_
  refine q_invSN (mc' := 0) (ms' := 0) (d' := d - 1) (as := [.int (ac), .int (nI (j))]) dX6_letter_5 kM_X10_has kN_X6_33 kT_X10_has rfl rfl rfl (Nat.le_of_ble_eq_true rfl) (by omega) (by decide) (by omega) (by omega) (e_has (d := d - 1)) (q_kR ?_) q_xR
  change q_W _ _ _ _ _ _ _ _ 8 [.ref (l), .int (nI (j))] [.int (z_b (z_has ac j))] _
  refine q_if_eq 14 dX6_letter_8 (by decide) (fun b8 => ?_) (fun b8 => ?_)
  · have b8 := z_b0n b8
    refine q_aload_n (by first | assumption | omega | decide) dX6_letter_14 rfl ?_
    refine q_getf (k := 2) (v := .int (rj)) kC_X6 kL_X6_19 rfl (by decide) dX6_letter_15 slb.c0 rfl ?_
    refine q_iload_n dX6_letter_18 rfl ?_
    refine q_invSN (mc' := 0) (ms' := 0) (d' := d - 1) (as := [.int (rj), .int (nI (j))]) dX6_letter_19 kM_X10_has kN_X6_33 kT_X10_has rfl rfl rfl (Nat.le_of_ble_eq_true rfl) (by omega) (by decide) (by omega) (by omega) (e_has (d := d - 1)) (q_kR ?_) q_xR
    change q_W _ _ _ _ _ _ _ _ 22 [.ref (l), .int (nI (j))] [.int (z_b (z_has rj j))] _
    refine q_if_eq 30 dX6_letter_22 (by decide) (fun b22 => ?_) (fun b22 => ?_)
    · have b22 := z_b0n b22
      refine q_bipush (v := 117) dX6_letter_30 rfl ?_
      have hE : x_lb_letter ac rj j = 117 := by simp only [x_lb_letter, if_neg b8, if_neg b22]
      rw [hE]
      exact q_ireturn dX6_letter_32 rfl rfl (by omega) (by omega) ⟨rfl, rfl⟩
    · have b22 := z_b1 b22
      refine q_bipush (v := 114) dX6_letter_25 rfl ?_
      refine q_goto 32 dX6_letter_27 (by decide) ?_
      have hE : x_lb_letter ac rj j = 114 := by simp only [x_lb_letter, if_neg b8, if_pos b22]
      rw [hE]
      exact q_ireturn dX6_letter_32 rfl rfl (by omega) (by omega) ⟨rfl, rfl⟩
  · have b8 := z_b1 b8
    refine q_bipush (v := 97) dX6_letter_11 rfl ?_
    have hE : x_lb_letter ac rj j = 97 := by simp only [x_lb_letter, if_pos b8]
    rw [hE]
    exact q_ireturn dX6_letter_13 rfl rfl (by omega) (by omega) ⟨rfl, rfl⟩
def x_lb_findAcceptable_4 (ac : Int32) (rj : Int32) (att : Nat → Int32) : Nat → Nat → (Int32) → (Int32)
  | 0, _, c4_2 => c4_2
  | r + 1, k, c4_2 => (if (x_lb_letter ac rj k) = (117) then (if ((att k) &&& (rj ^^^ (-1 : Int32))) = (0) then x_lb_findAcceptable_4 ac rj att r (k + 1) (c4_2 ||| ((1 : Int32) <<< ((nI (k)) &&& 31))) else x_lb_findAcceptable_4 ac rj att r (k + 1) c4_2) else x_lb_findAcceptable_4 ac rj att r (k + 1) c4_2)
set_option maxRecDepth 100000 in
set_option maxHeartbeats 8000000 in
theorem l_lb_findAcceptable_4 {g : q_G} {h : q_H} {d mc ms kc ks : Nat} {Q : q_O → q_H → Prop} {l : Nat} {ac : Int32} {rj : Int32} {ro : Nat → Int32} {a : Nat} {n : Nat} {id : Nat → Int32} {wt : Nat → Int32} {ag : Nat → Int32} {tg : Nat → Int32} {att : Nat → Int32} {ni : Int32} {dy : Int32} {mn : Nat} {mv : Nat → Int32} {en : Int32} {wo : Int32} {br : Int32} (slb : z_Lb h l ac rj ro) (sst : z_S2 h a n id wt ag tg att ni dy mn mv en wo br)  (ho_st_n : n ≤ 8) (ho_st_mn : mn ≤ 12)  (hd : 2 ≤ d) (hkc : kc + 0 ≤ mc) (hks : ks + 0 ≤ ms) : ∀ (r k : Nat) (c4_2 : Int32) (hk_4 : k + r = n) (K : ∀ (r4_0 : Int32), x_lb_findAcceptable_4 ac rj att r k c4_2 = r4_0 → q_W g mX6_findAcceptable d mc ms Q kc ks 50 [q_u, q_u, .int (r4_0), q_u] [] h), q_W g mX6_findAcceptable d mc ms Q kc ks 4 [.ref (l), .ref (a), .int (c4_2), .int (nI (k))] [] h := by
  intro r
  induction r with
  | zero =>
    intro k c4_2  hk_4 K
    have hr_lb := slb.r0
    have hr_st := sst.r0
    have hb_st_n := sst.bn
    have hb_st_mn := sst.bmn
    refine q_iload_n dX6_findAcceptable_4 rfl ?_
    refine q_aload_n (by first | assumption | omega | decide) dX6_findAcceptable_5 rfl ?_
    refine q_getf (k := 6) (v := .int (nI (n))) kC_X8 kL_X6_37 rfl (by decide) dX6_findAcceptable_6 sst.c0 rfl ?_
    refine q_icmp_ge 50 dX6_findAcceptable_9 (by decide) (fun b9 => ?_) (fun b9 => ?_)
    · have b9 := (nI_leI (a := n) (b := k) (by omega) (by omega)).mp b9
      refine q_forget 0 ?_
      refine q_forget 1 ?_
      refine q_forget 3 ?_
      change q_W _ _ _ _ _ _ _ _ _ [q_u, q_u, .int (c4_2), q_u] [] _
      exact K c4_2 (by simp only [x_lb_findAcceptable_4])
    · have b9 : ¬ (n ≤ k) := fun q => b9 ((nI_leI (a := n) (b := k) (by omega) (by omega)).mpr q)
      exact absurd b9 (by omega)
  | succ r ih =>
    intro k c4_2  hk_4 K
    have hr_lb := slb.r0
    have hr_st := sst.r0
    have hb_st_n := sst.bn
    have hb_st_mn := sst.bmn
    refine q_iload_n dX6_findAcceptable_4 rfl ?_
    refine q_aload_n (by first | assumption | omega | decide) dX6_findAcceptable_5 rfl ?_
    refine q_getf (k := 6) (v := .int (nI (n))) kC_X8 kL_X6_37 rfl (by decide) dX6_findAcceptable_6 sst.c0 rfl ?_
    refine q_icmp_ge 50 dX6_findAcceptable_9 (by decide) (fun b9 => ?_) (fun b9 => ?_)
    · have b9 := (nI_leI (a := n) (b := k) (by omega) (by omega)).mp b9
      exact absurd b9 (by omega)
    · have b9 : ¬ (n ≤ k) := fun q => b9 ((nI_leI (a := n) (b := k) (by omega) (by omega)).mpr q)
      refine q_aload_n (by first | assumption | omega | decide) dX6_findAcceptable_12 rfl ?_
      refine q_iload_n dX6_findAcceptable_13 rfl ?_
      refine q_invV (mc' := 0) (ms' := 0) (d' := d - 1) (as := [.int (nI (k))]) dX6_findAcceptable_14 kM_X6_letter kL_X6_42 kI_X6_letter kS_X6_letter rfl (kC_X6.1) slb.c0 rfl rfl (Nat.le_of_ble_eq_true rfl) (by omega) (by decide) (by omega) (by omega) (e_lb_letter (d := d - 1) slb k (by omega)) (q_kR ?_) q_xR
      change q_W _ _ _ _ _ _ _ _ 17 [.ref (l), .ref (a), .int (c4_2), .int (nI (k))] [.int (x_lb_letter ac rj k)] _
      refine q_bipush (v := 117) dX6_findAcceptable_17 rfl ?_
      refine q_icmp_ne 44 dX6_findAcceptable_19 (by decide) (fun b19 => ?_) (fun b19 => ?_)
      · refine q_iinc (x := nI (k)) (v := nI (k + 1)) dX6_findAcceptable_44 rfl (nI_add _ 1) rfl ?_
        change q_W _ _ _ _ _ _ _ _ _ [.ref (l), .ref (a), .int (c4_2), .int (nI (k + 1))] [] _
        refine q_goto 4 dX6_findAcceptable_47 (by decide) ?_
        change q_W _ _ _ _ _ _ _ _ _ [.ref (l), .ref (a), .int (c4_2), .int (nI (k + 1))] [] _
        exact ih (k + 1) c4_2 (by omega) (fun r4_0 e9 => K r4_0 (by simp only [x_lb_findAcceptable_4, if_neg b19]; exact e9))
      · refine q_aload_n (by first | assumption | omega | decide) dX6_findAcceptable_22 rfl ?_
        refine q_getf (k := 4) (v := .ref (a + 5)) kC_X8 kL_X6_46 rfl (by decide) dX6_findAcceptable_23 sst.c0 rfl ?_
        refine q_iload_n dX6_findAcceptable_26 rfl ?_
        refine q_ialdN (j := k) (f := att) dX6_findAcceptable_27 sst.c5 (by omega) (by decide) ?_
        change q_W _ _ _ _ _ _ _ _ _ _ [.int (att k)] _
        refine q_aload_n (by first | assumption | omega | decide) dX6_findAcceptable_28 rfl ?_
        refine q_getf (k := 2) (v := .int (rj)) kC_X6 kL_X6_19 rfl (by decide) dX6_findAcceptable_29 slb.c0 rfl ?_
        refine q_iconst (v := -1) dX6_findAcceptable_32 rfl ?_
        refine q_ixor dX6_findAcceptable_33 ?_
        refine q_iand dX6_findAcceptable_34 ?_
        refine q_if_ne 44 dX6_findAcceptable_35 (by decide) (fun b35 => ?_) (fun b35 => ?_)
        · refine q_iinc (x := nI (k)) (v := nI (k + 1)) dX6_findAcceptable_44 rfl (nI_add _ 1) rfl ?_
          change q_W _ _ _ _ _ _ _ _ _ [.ref (l), .ref (a), .int (c4_2), .int (nI (k + 1))] [] _
          refine q_goto 4 dX6_findAcceptable_47 (by decide) ?_
          change q_W _ _ _ _ _ _ _ _ _ [.ref (l), .ref (a), .int (c4_2), .int (nI (k + 1))] [] _
          exact ih (k + 1) c4_2 (by omega) (fun r4_0 e9 => K r4_0 (by simp only [x_lb_findAcceptable_4, if_pos b19, if_neg b35]; exact e9))
        · refine q_iload_n dX6_findAcceptable_38 rfl ?_
          refine q_iconst (v := 1) dX6_findAcceptable_39 rfl ?_
          refine q_iload_n dX6_findAcceptable_40 rfl ?_
          refine q_ishl dX6_findAcceptable_41 ?_
          refine q_ior dX6_findAcceptable_42 ?_
          refine q_istore_n dX6_findAcceptable_43 (by decide) rfl ?_
          change q_W _ _ _ _ _ _ _ _ _ [.ref (l), .ref (a), .int (c4_2 ||| ((1 : Int32) <<< ((nI (k)) &&& 31))), .int (nI (k))] [] _
          refine q_iinc (x := nI (k)) (v := nI (k + 1)) dX6_findAcceptable_44 rfl (nI_add _ 1) rfl ?_
          change q_W _ _ _ _ _ _ _ _ _ [.ref (l), .ref (a), .int (c4_2 ||| ((1 : Int32) <<< ((nI (k)) &&& 31))), .int (nI (k + 1))] [] _
          refine q_goto 4 dX6_findAcceptable_47 (by decide) ?_
          change q_W _ _ _ _ _ _ _ _ _ [.ref (l), .ref (a), .int (c4_2 ||| ((1 : Int32) <<< ((nI (k)) &&& 31))), .int (nI (k + 1))] [] _
          exact ih (k + 1) (c4_2 ||| ((1 : Int32) <<< ((nI (k)) &&& 31))) (by omega) (fun r4_0 e9 => K r4_0 (by simp only [x_lb_findAcceptable_4, if_pos b19, if_pos b35]; exact e9))
def x_lb_findAcceptable (ac : Int32) (rj : Int32) (n : Nat) (att : Nat → Int32) : Int32 := (let a1_0 := x_lb_findAcceptable_4 ac rj att n 0 0; a1_0)
set_option maxRecDepth 100000 in
set_option maxHeartbeats 8000000 in
theorem e_lb_findAcceptable {g : q_G} {h : q_H} {d : Nat} {l : Nat} {ac : Int32} {rj : Int32} {ro : Nat → Int32} (slb : z_Lb h l ac rj ro) {a : Nat} {n : Nat} {id : Nat → Int32} {wt : Nat → Int32} {ag : Nat → Int32} {tg : Nat → Int32} {att : Nat → Int32} {ni : Int32} {dy : Int32} {mn : Nat} {mv : Nat → Int32} {en : Int32} {wo : Int32} {br : Int32} (sst : z_S2 h a n id wt ag tg att ni dy mn mv en wo br)    (hd : 2 ≤ d) : q_Spec g mX6_findAcceptable d 0 0 [.ref (l), .ref (a)] h (q_ret ((some (.int (x_lb_findAcceptable ac rj n att)))) h) := by
  have hr_lb := slb.r0
  have hr_st := sst.r0
  have hb_st_n := sst.bn
  have hb_st_mn := sst.bmn
  have ho_st_n := sst.bn
  have ho_st_mn := sst.bmn
  refine q_enter (by decide +kernel) rfl rfl (Nat.le_of_ble_eq_true rfl) (fun hz => ?_)
  change q_W _ _ _ _ _ _ _ _ _ [.ref (l), .ref (a), q_u, q_u] [] _
  refine q_iconst (v := 0) dX6_findAcceptable_0 rfl ?_
  refine q_istore_n dX6_findAcceptable_1 (by decide) rfl ?_
  change q_W _ _ _ _ _ _ _ _ _ [.ref (l), .ref (a), .int (0), q_u] [] _
  refine q_iconst (v := 0) dX6_findAcceptable_2 rfl ?_
  refine q_istore_n dX6_findAcceptable_3 (by decide) rfl ?_
  change q_W _ _ _ _ _ _ _ _ _ [.ref (l), .ref (a), .int (0), .int (0)] [] _
  change q_W _ _ _ _ _ _ _ _ _ [.ref (l), .ref (a), .int (0), .int (0)] [] _
  refine l_lb_findAcceptable_4 slb sst ho_st_n ho_st_mn (by omega) (by omega) (by omega) n 0 0 (by omega) (fun a1_0 x1 => ?_)
  change q_W _ _ _ _ _ _ _ _ 50 [q_u, q_u, .int (a1_0), q_u] [] _
  refine q_iload_n dX6_findAcceptable_50 rfl ?_
  have hE : x_lb_findAcceptable ac rj n att = a1_0 := by simp only [x_lb_findAcceptable, x1]
  rw [hE]
  exact q_ireturn dX6_findAcceptable_51 rfl rfl (by omega) (by omega) ⟨rfl, rfl⟩
def x_lb_findRejectable_4 (ac : Int32) (rj : Int32) (att : Nat → Int32) : Nat → Nat → (Int32) → (Int32)
  | 0, _, c4_2 => c4_2
  | r + 1, k, c4_2 => (if (x_lb_letter ac rj k) = (117) then (if ((att k) &&& ac) = (0) then x_lb_findRejectable_4 ac rj att r (k + 1) c4_2 else x_lb_findRejectable_4 ac rj att r (k + 1) (c4_2 ||| ((1 : Int32) <<< ((nI (k)) &&& 31)))) else x_lb_findRejectable_4 ac rj att r (k + 1) c4_2)
set_option maxRecDepth 100000 in
set_option maxHeartbeats 8000000 in
theorem l_lb_findRejectable_4 {g : q_G} {h : q_H} {d mc ms kc ks : Nat} {Q : q_O → q_H → Prop} {l : Nat} {ac : Int32} {rj : Int32} {ro : Nat → Int32} {a : Nat} {n : Nat} {id : Nat → Int32} {wt : Nat → Int32} {ag : Nat → Int32} {tg : Nat → Int32} {att : Nat → Int32} {ni : Int32} {dy : Int32} {mn : Nat} {mv : Nat → Int32} {en : Int32} {wo : Int32} {br : Int32} (slb : z_Lb h l ac rj ro) (sst : z_S2 h a n id wt ag tg att ni dy mn mv en wo br)  (ho_st_n : n ≤ 8) (ho_st_mn : mn ≤ 12)  (hd : 2 ≤ d) (hkc : kc + 0 ≤ mc) (hks : ks + 0 ≤ ms) : ∀ (r k : Nat) (c4_2 : Int32) (hk_4 : k + r = n) (K : ∀ (r4_0 : Int32), x_lb_findRejectable_4 ac rj att r k c4_2 = r4_0 → q_W g mX6_findRejectable d mc ms Q kc ks 48 [q_u, q_u, .int (r4_0), q_u] [] h), q_W g mX6_findRejectable d mc ms Q kc ks 4 [.ref (l), .ref (a), .int (c4_2), .int (nI (k))] [] h := by
  intro r
  induction r with
  | zero =>
    intro k c4_2  hk_4 K
    have hr_lb := slb.r0
    have hr_st := sst.r0
    have hb_st_n := sst.bn
    have hb_st_mn := sst.bmn
    refine q_iload_n dX6_findRejectable_4 rfl ?_
    refine q_aload_n (by first | assumption | omega | decide) dX6_findRejectable_5 rfl ?_
    refine q_getf (k := 6) (v := .int (nI (n))) kC_X8 kL_X6_37 rfl (by decide) dX6_findRejectable_6 sst.c0 rfl ?_
    refine q_icmp_ge 48 dX6_findRejectable_9 (by decide) (fun b9 => ?_) (fun b9 => ?_)
    · have b9 := (nI_leI (a := n) (b := k) (by omega) (by omega)).mp b9
      refine q_forget 0 ?_
      refine q_forget 1 ?_
      refine q_forget 3 ?_
      change q_W _ _ _ _ _ _ _ _ _ [q_u, q_u, .int (c4_2), q_u] [] _
      exact K c4_2 (by simp only [x_lb_findRejectable_4])
    · have b9 : ¬ (n ≤ k) := fun q => b9 ((nI_leI (a := n) (b := k) (by omega) (by omega)).mpr q)
      exact absurd b9 (by omega)
  | succ r ih =>
    intro k c4_2  hk_4 K
    have hr_lb := slb.r0
    have hr_st := sst.r0
    have hb_st_n := sst.bn
    have hb_st_mn := sst.bmn
    refine q_iload_n dX6_findRejectable_4 rfl ?_
    refine q_aload_n (by first | assumption | omega | decide) dX6_findRejectable_5 rfl ?_
    refine q_getf (k := 6) (v := .int (nI (n))) kC_X8 kL_X6_37 rfl (by decide) dX6_findRejectable_6 sst.c0 rfl ?_
    refine q_icmp_ge 48 dX6_findRejectable_9 (by decide) (fun b9 => ?_) (fun b9 => ?_)
    · have b9 := (nI_leI (a := n) (b := k) (by omega) (by omega)).mp b9
      exact absurd b9 (by omega)
    · have b9 : ¬ (n ≤ k) := fun q => b9 ((nI_leI (a := n) (b := k) (by omega) (by omega)).mpr q)
      refine q_aload_n (by first | assumption | omega | decide) dX6_findRejectable_12 rfl ?_
      refine q_iload_n dX6_findRejectable_13 rfl ?_
      refine q_invV (mc' := 0) (ms' := 0) (d' := d - 1) (as := [.int (nI (k))]) dX6_findRejectable_14 kM_X6_letter kL_X6_42 kI_X6_letter kS_X6_letter rfl (kC_X6.1) slb.c0 rfl rfl (Nat.le_of_ble_eq_true rfl) (by omega) (by decide) (by omega) (by omega) (e_lb_letter (d := d - 1) slb k (by omega)) (q_kR ?_) q_xR
      change q_W _ _ _ _ _ _ _ _ 17 [.ref (l), .ref (a), .int (c4_2), .int (nI (k))] [.int (x_lb_letter ac rj k)] _
      refine q_bipush (v := 117) dX6_findRejectable_17 rfl ?_
      refine q_icmp_ne 42 dX6_findRejectable_19 (by decide) (fun b19 => ?_) (fun b19 => ?_)
      · refine q_iinc (x := nI (k)) (v := nI (k + 1)) dX6_findRejectable_42 rfl (nI_add _ 1) rfl ?_
        change q_W _ _ _ _ _ _ _ _ _ [.ref (l), .ref (a), .int (c4_2), .int (nI (k + 1))] [] _
        refine q_goto 4 dX6_findRejectable_45 (by decide) ?_
        change q_W _ _ _ _ _ _ _ _ _ [.ref (l), .ref (a), .int (c4_2), .int (nI (k + 1))] [] _
        exact ih (k + 1) c4_2 (by omega) (fun r4_0 e9 => K r4_0 (by simp only [x_lb_findRejectable_4, if_neg b19]; exact e9))
      · refine q_aload_n (by first | assumption | omega | decide) dX6_findRejectable_22 rfl ?_
        refine q_getf (k := 4) (v := .ref (a + 5)) kC_X8 kL_X6_46 rfl (by decide) dX6_findRejectable_23 sst.c0 rfl ?_
        refine q_iload_n dX6_findRejectable_26 rfl ?_
        refine q_ialdN (j := k) (f := att) dX6_findRejectable_27 sst.c5 (by omega) (by decide) ?_
        change q_W _ _ _ _ _ _ _ _ _ _ [.int (att k)] _
        refine q_aload_n (by first | assumption | omega | decide) dX6_findRejectable_28 rfl ?_
        refine q_getf (k := 1) (v := .int (ac)) kC_X6 kL_X6_15 rfl (by decide) dX6_findRejectable_29 slb.c0 rfl ?_
        refine q_iand dX6_findRejectable_32 ?_
        refine q_if_eq 42 dX6_findRejectable_33 (by decide) (fun b33 => ?_) (fun b33 => ?_)
        · refine q_iinc (x := nI (k)) (v := nI (k + 1)) dX6_findRejectable_42 rfl (nI_add _ 1) rfl ?_
          change q_W _ _ _ _ _ _ _ _ _ [.ref (l), .ref (a), .int (c4_2), .int (nI (k + 1))] [] _
          refine q_goto 4 dX6_findRejectable_45 (by decide) ?_
          change q_W _ _ _ _ _ _ _ _ _ [.ref (l), .ref (a), .int (c4_2), .int (nI (k + 1))] [] _
          exact ih (k + 1) c4_2 (by omega) (fun r4_0 e9 => K r4_0 (by simp only [x_lb_findRejectable_4, if_pos b19, if_pos b33]; exact e9))
        · refine q_iload_n dX6_findRejectable_36 rfl ?_
          refine q_iconst (v := 1) dX6_findRejectable_37 rfl ?_
          refine q_iload_n dX6_findRejectable_38 rfl ?_
          refine q_ishl dX6_findRejectable_39 ?_
          refine q_ior dX6_findRejectable_40 ?_
          refine q_istore_n dX6_findRejectable_41 (by decide) rfl ?_
          change q_W _ _ _ _ _ _ _ _ _ [.ref (l), .ref (a), .int (c4_2 ||| ((1 : Int32) <<< ((nI (k)) &&& 31))), .int (nI (k))] [] _
          refine q_iinc (x := nI (k)) (v := nI (k + 1)) dX6_findRejectable_42 rfl (nI_add _ 1) rfl ?_
          change q_W _ _ _ _ _ _ _ _ _ [.ref (l), .ref (a), .int (c4_2 ||| ((1 : Int32) <<< ((nI (k)) &&& 31))), .int (nI (k + 1))] [] _
          refine q_goto 4 dX6_findRejectable_45 (by decide) ?_
          change q_W _ _ _ _ _ _ _ _ _ [.ref (l), .ref (a), .int (c4_2 ||| ((1 : Int32) <<< ((nI (k)) &&& 31))), .int (nI (k + 1))] [] _
          exact ih (k + 1) (c4_2 ||| ((1 : Int32) <<< ((nI (k)) &&& 31))) (by omega) (fun r4_0 e9 => K r4_0 (by simp only [x_lb_findRejectable_4, if_pos b19, if_neg b33]; exact e9))
def x_lb_findRejectable (ac : Int32) (rj : Int32) (n : Nat) (att : Nat → Int32) : Int32 := (let a1_0 := x_lb_findRejectable_4 ac rj att n 0 0; a1_0)
set_option maxRecDepth 100000 in
set_option maxHeartbeats 8000000 in
theorem e_lb_findRejectable {g : q_G} {h : q_H} {d : Nat} {l : Nat} {ac : Int32} {rj : Int32} {ro : Nat → Int32} (slb : z_Lb h l ac rj ro) {a : Nat} {n : Nat} {id : Nat → Int32} {wt : Nat → Int32} {ag : Nat → Int32} {tg : Nat → Int32} {att : Nat → Int32} {ni : Int32} {dy : Int32} {mn : Nat} {mv : Nat → Int32} {en : Int32} {wo : Int32} {br : Int32} (sst : z_S2 h a n id wt ag tg att ni dy mn mv en wo br)    (hd : 2 ≤ d) : q_Spec g mX6_findRejectable d 0 0 [.ref (l), .ref (a)] h (q_ret ((some (.int (x_lb_findRejectable ac rj n att)))) h) := by
  have hr_lb := slb.r0
  have hr_st := sst.r0
  have hb_st_n := sst.bn
  have hb_st_mn := sst.bmn
  have ho_st_n := sst.bn
  have ho_st_mn := sst.bmn
  refine q_enter (by decide +kernel) rfl rfl (Nat.le_of_ble_eq_true rfl) (fun hz => ?_)
  change q_W _ _ _ _ _ _ _ _ _ [.ref (l), .ref (a), q_u, q_u] [] _
  refine q_iconst (v := 0) dX6_findRejectable_0 rfl ?_
  refine q_istore_n dX6_findRejectable_1 (by decide) rfl ?_
  change q_W _ _ _ _ _ _ _ _ _ [.ref (l), .ref (a), .int (0), q_u] [] _
  refine q_iconst (v := 0) dX6_findRejectable_2 rfl ?_
  refine q_istore_n dX6_findRejectable_3 (by decide) rfl ?_
  change q_W _ _ _ _ _ _ _ _ _ [.ref (l), .ref (a), .int (0), .int (0)] [] _
  change q_W _ _ _ _ _ _ _ _ _ [.ref (l), .ref (a), .int (0), .int (0)] [] _
  refine l_lb_findRejectable_4 slb sst ho_st_n ho_st_mn (by omega) (by omega) (by omega) n 0 0 (by omega) (fun a1_0 x1 => ?_)
  change q_W _ _ _ _ _ _ _ _ 48 [q_u, q_u, .int (a1_0), q_u] [] _
  refine q_iload_n dX6_findRejectable_48 rfl ?_
  have hE : x_lb_findRejectable ac rj n att = a1_0 := by simp only [x_lb_findRejectable, x1]
  rw [hE]
  exact q_ireturn dX6_findRejectable_49 rfl rfl (by omega) (by omega) ⟨rfl, rfl⟩
def x_lb_noteRound_2 (xs : Int32) (xr : Int32) : Nat → Nat → (Nat → Int32) → (Nat → Int32)
  | 0, _, ro_2 => ro_2
  | r + 1, k, ro_2 => (if z_has xs k then x_lb_noteRound_2 xs xr r (k + 1) (upd ro_2 k (xr)) else x_lb_noteRound_2 xs xr r (k + 1) ro_2)
set_option maxRecDepth 100000 in
set_option maxHeartbeats 8000000 in
theorem l_lb_noteRound_2 {g : q_G} {h : q_H} {d mc ms kc ks : Nat} {Q : q_O → q_H → Prop} {l : Nat} {ac : Int32} {rj : Int32} {xs : Int32} {xr : Int32}  (hr_lb : q_R0 ≤ l)   (hd : 1 ≤ d) (hkc : kc + 0 ≤ mc) (hks : ks + 0 ≤ ms) : ∀ (r k : Nat) (ro_2 : Nat → Int32) (hh : q_H) (slb_2 : z_Lb hh l ac rj ro_2) (pH : q_same h hh l 2) (hk_2 : k + r = 8) (K : ∀ (r2_0 : Nat → Int32), x_lb_noteRound_2 xs xr r k ro_2 = r2_0 → ∀ h2, z_Lb h2 l ac rj r2_0 → q_same h h2 l 2 → q_W g mX6_noteRound d mc ms Q kc ks 29 [q_u, q_u, q_u, q_u] [] h2), q_W g mX6_noteRound d mc ms Q kc ks 2 [.ref (l), .int (xs), .int (xr), .int (nI (k))] [] hh := by
  intro r
  induction r with
  | zero =>
    intro k ro_2 hh slb_2 pH hk_2 K
    have hr_lb := slb_2.r0
    refine q_iload_n dX6_noteRound_2 rfl ?_
    refine q_bipush (v := 8) dX6_noteRound_3 rfl ?_
    refine q_icmp_ge 29 dX6_noteRound_5 (by decide) (fun b5 => ?_) (fun b5 => ?_)
    · have b5 := (nI_leI (a := 8) (b := k) (by omega) (by omega)).mp b5
      refine q_forget 0 ?_
      refine q_forget 1 ?_
      refine q_forget 2 ?_
      refine q_forget 3 ?_
      change q_W _ _ _ _ _ _ _ _ _ [q_u, q_u, q_u, q_u] [] _
      exact K ro_2 (by simp only [x_lb_noteRound_2]) hh slb_2 pH
    · have b5 : ¬ (8 ≤ k) := fun q => b5 ((nI_leI (a := 8) (b := k) (by omega) (by omega)).mpr q)
      exact absurd b5 (by omega)
  | succ r ih =>
    intro k ro_2 hh slb_2 pH hk_2 K
    have hr_lb := slb_2.r0
    refine q_iload_n dX6_noteRound_2 rfl ?_
    refine q_bipush (v := 8) dX6_noteRound_3 rfl ?_
    refine q_icmp_ge 29 dX6_noteRound_5 (by decide) (fun b5 => ?_) (fun b5 => ?_)
    · have b5 := (nI_leI (a := 8) (b := k) (by omega) (by omega)).mp b5
      exact absurd b5 (by omega)
    · have b5 : ¬ (8 ≤ k) := fun q => b5 ((nI_leI (a := 8) (b := k) (by omega) (by omega)).mpr q)
      refine q_iload_n dX6_noteRound_8 rfl ?_
      refine q_iload_n dX6_noteRound_9 rfl ?_
      refine q_invSN (mc' := 0) (ms' := 0) (d' := d - 1) (as := [.int (xs), .int (nI (k))]) dX6_noteRound_10 kM_X10_has kN_X6_33 kT_X10_has rfl rfl rfl (Nat.le_of_ble_eq_true rfl) (by omega) (by decide) (by omega) (by omega) (e_has (d := d - 1)) (q_kR ?_) q_xR
      change q_W _ _ _ _ _ _ _ _ 13 [.ref (l), .int (xs), .int (xr), .int (nI (k))] [.int (z_b (z_has xs k))] _
      refine q_if_eq 23 dX6_noteRound_13 (by decide) (fun b13 => ?_) (fun b13 => ?_)
      · have b13 := z_b0n b13
        refine q_iinc (x := nI (k)) (v := nI (k + 1)) dX6_noteRound_23 rfl (nI_add _ 1) rfl ?_
        change q_W _ _ _ _ _ _ _ _ _ [.ref (l), .int (xs), .int (xr), .int (nI (k + 1))] [] _
        refine q_goto 2 dX6_noteRound_26 (by decide) ?_
        change q_W _ _ _ _ _ _ _ _ _ [.ref (l), .int (xs), .int (xr), .int (nI (k + 1))] [] _
        exact ih (k + 1) ro_2 hh slb_2 pH (by omega) (fun r2_0 e9 => K r2_0 (by simp only [x_lb_noteRound_2, if_neg b13]; exact e9))
      · have b13 := z_b1 b13
        refine q_aload_n (by first | assumption | omega | decide) dX6_noteRound_16 rfl ?_
        refine q_getf (k := 0) (v := .ref (l + 1)) kC_X6 kL_X6_9 rfl (by decide) dX6_noteRound_17 slb_2.c0 rfl ?_
        refine q_iload_n dX6_noteRound_20 rfl ?_
        refine q_iload_n dX6_noteRound_21 rfl ?_
        refine q_iastN (j := k) dX6_noteRound_22 slb_2.c1 (by omega) (by decide) ?_
        refine z_genW (B := fun H => z_Lb H l ac rj (upd ro_2 k (xr)) ∧ q_same h H l 2) ⟨z_Lb.put1 slb_2, pH.trans (q_same.set (by omega) (by omega))⟩ (fun h1 hB => ?_)
        obtain ⟨slb1, p1⟩ := hB
        refine q_iinc (x := nI (k)) (v := nI (k + 1)) dX6_noteRound_23 rfl (nI_add _ 1) rfl ?_
        change q_W _ _ _ _ _ _ _ _ _ [.ref (l), .int (xs), .int (xr), .int (nI (k + 1))] [] _
        refine q_goto 2 dX6_noteRound_26 (by decide) ?_
        change q_W _ _ _ _ _ _ _ _ _ [.ref (l), .int (xs), .int (xr), .int (nI (k + 1))] [] _
        exact ih (k + 1) (upd ro_2 k (xr)) h1 slb1 p1 (by omega) (fun r2_0 e9 => K r2_0 (by simp only [x_lb_noteRound_2, if_pos b13]; exact e9))
def x_lb_noteRound (ro : Nat → Int32) (xs : Int32) (xr : Int32) : (Nat → Int32) := (let a2_0 := x_lb_noteRound_2 xs xr 8 0 ro; (a2_0))
set_option maxRecDepth 100000 in
set_option maxHeartbeats 8000000 in
theorem e_lb_noteRound {g : q_G} {h : q_H} {d : Nat} {l : Nat} {ac : Int32} {rj : Int32} {ro : Nat → Int32} (slb : z_Lb h l ac rj ro) (xs : Int32) (xr : Int32)   (hd : 1 ≤ d) : q_Spec g mX6_noteRound d 0 0 [.ref (l), .int (xs), .int (xr)] h (q_chg (.inl none) (fun h1 => z_Lb h1 l ac rj (x_lb_noteRound ro xs xr) ∧ q_same h h1 l 2)) := by
  have hr_lb := slb.r0
  have p0 : q_same h h l 2 := q_same.rfl'
  refine q_enter (by decide +kernel) rfl rfl (Nat.le_of_ble_eq_true rfl) (fun hz => ?_)
  change q_W _ _ _ _ _ _ _ _ _ [.ref (l), .int (xs), .int (xr), q_u] [] _
  refine q_iconst (v := 0) dX6_noteRound_0 rfl ?_
  refine q_istore_n dX6_noteRound_1 (by decide) rfl ?_
  change q_W _ _ _ _ _ _ _ _ _ [.ref (l), .int (xs), .int (xr), .int (0)] [] _
  change q_W _ _ _ _ _ _ _ _ _ [.ref (l), .int (xs), .int (xr), .int (0)] [] _
  refine l_lb_noteRound_2 hr_lb (by omega) (by omega) (by omega) 8 0 ro h slb p0 (by omega) (fun a2_0 x2 h3 slb3 p3 => ?_)
  change q_W _ _ _ _ _ _ _ _ 29 [q_u, q_u, q_u, q_u] [] _
  have hE : x_lb_noteRound ro xs xr = (a2_0) := by simp only [x_lb_noteRound, x2]
  rw [hE]
  exact q_return dX6_noteRound_29 rfl (by omega) (by omega) ⟨rfl, slb3, p3⟩
def x_lb_give_14 (n : Nat) (att : Nat → Int32) : Nat → Nat → (Int32) → (Int32) → (Int32) → (Nat → Int32) → (Int32) × (Int32) × (Nat → Int32)
  | 0, _, c14_2, ac_14, rj_14, ro_14 => (if (c14_2) = (0) then (ac_14, rj_14, ro_14) else (ac_14, rj_14, ro_14))
  | r + 1, k, c14_2, ac_14, rj_14, ro_14 => (if (c14_2) = (0) then (ac_14, rj_14, ro_14) else (let v4 := x_lb_findRejectable (ac_14 ||| (x_lb_findAcceptable ac_14 rj_14 n att)) rj_14 n att; (let y7_ro := x_lb_noteRound ro_14 (((ac_14 ||| (x_lb_findAcceptable ac_14 rj_14 n att)) ||| (rj_14 ||| v4)) &&& ((ac_14 ||| rj_14) ^^^ (-1 : Int32))) (nI (k)); (if (((ac_14 ||| (x_lb_findAcceptable ac_14 rj_14 n att)) ||| (rj_14 ||| v4)) &&& ((ac_14 ||| rj_14) ^^^ (-1 : Int32))) = (0) then x_lb_give_14 n att r (k + 1) 0 (ac_14 ||| (x_lb_findAcceptable ac_14 rj_14 n att)) (rj_14 ||| v4) y7_ro else x_lb_give_14 n att r (k + 1) 1 (ac_14 ||| (x_lb_findAcceptable ac_14 rj_14 n att)) (rj_14 ||| v4) y7_ro))))
set_option maxRecDepth 100000 in
set_option maxHeartbeats 8000000 in
theorem l_lb_give_14 {g : q_G} {h : q_H} {d mc ms kc ks : Nat} {Q : q_O → q_H → Prop} {l : Nat} {a : Nat} {n : Nat} {id : Nat → Int32} {wt : Nat → Int32} {ag : Nat → Int32} {tg : Nat → Int32} {att : Nat → Int32} {ni : Int32} {dy : Int32} {mn : Nat} {mv : Nat → Int32} {en : Int32} {wo : Int32} {br : Int32}  (hr_lb : q_R0 ≤ l) (hr_st : q_R0 ≤ a) (hs : a + 8 ≤ l ∨ l + 2 ≤ a) (ho_st_n : n ≤ 8) (ho_st_mn : mn ≤ 12)  (hd : 3 ≤ d) (hkc : kc + 0 ≤ mc) (hks : ks + 0 ≤ ms) : ∀ (r k : Nat) (c14_2 : Int32) (ac_14 : Int32) (rj_14 : Int32) (ro_14 : Nat → Int32) (hh : q_H) (slb_14 : z_Lb hh l ac_14 rj_14 ro_14) (sst_14 : z_S2 hh a n id wt ag tg att ni dy mn mv en wo br) (pH : q_same h hh l 2) (hk_14 : k + r = 9) (K : ∀ (r14_0 : Int32) (r14_1 : Int32) (r14_2 : Nat → Int32), x_lb_give_14 n att r k c14_2 ac_14 rj_14 ro_14 = (r14_0, r14_1, r14_2) → ∀ h2, z_Lb h2 l r14_0 r14_1 r14_2 → z_S2 h2 a n id wt ag tg att ni dy mn mv en wo br → q_same h h2 l 2 → q_W g mX6_give d mc ms Q kc ks 103 [q_u, q_u, q_u, q_u, q_u, q_u] [] h2), q_W g mX6_give d mc ms Q kc ks 14 [.ref (l), .ref (a), .int (c14_2), .int (nI (k)), q_u, q_u] [] hh := by
  intro r
  induction r with
  | zero =>
    intro k c14_2 ac_14 rj_14 ro_14 hh slb_14 sst_14 pH hk_14 K
    have hr_lb := slb_14.r0
    have hr_st := sst_14.r0
    have hb_st_n := sst_14.bn
    have hb_st_mn := sst_14.bmn
    refine q_iload_n dX6_give_14 rfl ?_
    refine q_if_eq 103 dX6_give_15 (by decide) (fun b15 => ?_) (fun b15 => ?_)
    · refine q_forget 0 ?_
      refine q_forget 1 ?_
      refine q_forget 2 ?_
      refine q_forget 3 ?_
      change q_W _ _ _ _ _ _ _ _ _ [q_u, q_u, q_u, q_u, q_u, q_u] [] _
      exact K ac_14 rj_14 ro_14 (by simp only [x_lb_give_14, if_pos b15]) hh slb_14 sst_14 pH
    · refine q_iload_n dX6_give_18 rfl ?_
      refine q_bipush (v := 8) dX6_give_19 rfl ?_
      refine q_icmp_gt 103 dX6_give_21 (by decide) (fun b21 => ?_) (fun b21 => ?_)
      · have b21 := (nI_ltI (a := 8) (b := k) (by omega) (by omega)).mp b21
        refine q_forget 0 ?_
        refine q_forget 1 ?_
        refine q_forget 2 ?_
        refine q_forget 3 ?_
        change q_W _ _ _ _ _ _ _ _ _ [q_u, q_u, q_u, q_u, q_u, q_u] [] _
        exact K ac_14 rj_14 ro_14 (by simp only [x_lb_give_14, if_neg b15]) hh slb_14 sst_14 pH
      · have b21 : ¬ (8 < k) := fun q => b21 ((nI_ltI (a := 8) (b := k) (by omega) (by omega)).mpr q)
        exact absurd b21 (by omega)
  | succ r ih =>
    intro k c14_2 ac_14 rj_14 ro_14 hh slb_14 sst_14 pH hk_14 K
    have hr_lb := slb_14.r0
    have hr_st := sst_14.r0
    have hb_st_n := sst_14.bn
    have hb_st_mn := sst_14.bmn
    refine q_iload_n dX6_give_14 rfl ?_
    refine q_if_eq 103 dX6_give_15 (by decide) (fun b15 => ?_) (fun b15 => ?_)
    · refine q_forget 0 ?_
      refine q_forget 1 ?_
      refine q_forget 2 ?_
      refine q_forget 3 ?_
      change q_W _ _ _ _ _ _ _ _ _ [q_u, q_u, q_u, q_u, q_u, q_u] [] _
      exact K ac_14 rj_14 ro_14 (by simp only [x_lb_give_14, if_pos b15]) hh slb_14 sst_14 pH
    · refine q_iload_n dX6_give_18 rfl ?_
      refine q_bipush (v := 8) dX6_give_19 rfl ?_
      refine q_icmp_gt 103 dX6_give_21 (by decide) (fun b21 => ?_) (fun b21 => ?_)
      · have b21 := (nI_ltI (a := 8) (b := k) (by omega) (by omega)).mp b21
        exact absurd b21 (by omega)
      · have b21 : ¬ (8 < k) := fun q => b21 ((nI_ltI (a := 8) (b := k) (by omega) (by omega)).mpr q)
        refine q_aload_n (by first | assumption | omega | decide) dX6_give_24 rfl ?_
        refine q_getf (k := 1) (v := .int (ac_14)) kC_X6 kL_X6_15 rfl (by decide) dX6_give_25 slb_14.c0 rfl ?_
        refine q_aload_n (by first | assumption | omega | decide) dX6_give_28 rfl ?_
        refine q_getf (k := 2) (v := .int (rj_14)) kC_X6 kL_X6_19 rfl (by decide) dX6_give_29 slb_14.c0 rfl ?_
        refine q_ior dX6_give_32 ?_
        refine q_istore dX6_give_33 (by decide) rfl ?_
        change q_W _ _ _ _ _ _ _ _ _ [.ref (l), .ref (a), .int (c14_2), .int (nI (k)), .int (ac_14 ||| rj_14), q_u] [] _
        refine q_aload_n (by first | assumption | omega | decide) dX6_give_35 rfl ?_
        refine q_dup dX6_give_36 rfl ?_
        refine q_getf (k := 1) (v := .int (ac_14)) kC_X6 kL_X6_15 rfl (by decide) dX6_give_37 slb_14.c0 rfl ?_
        refine q_aload_n (by first | assumption | omega | decide) dX6_give_40 rfl ?_
        refine q_aload_n (by first | assumption | omega | decide) dX6_give_41 rfl ?_
        refine q_invV (mc' := 0) (ms' := 0) (d' := d - 1) (as := [.ref (a)]) dX6_give_42 kM_X6_findAcceptable kL_X6_22 kI_X6_findAcceptable kS_X6_findAcceptable rfl (kC_X6.1) slb_14.c0 rfl rfl (Nat.le_of_ble_eq_true rfl) (by omega) (by decide) (by omega) (by omega) (e_lb_findAcceptable (d := d - 1) slb_14 sst_14 (by omega)) (q_kR ?_) q_xR
        change q_W _ _ _ _ _ _ _ _ 45 [.ref (l), .ref (a), .int (c14_2), .int (nI (k)), .int (ac_14 ||| rj_14), q_u] [.int (x_lb_findAcceptable ac_14 rj_14 n att), .int (ac_14), .ref (l)] _
        refine q_ior dX6_give_45 ?_
        refine q_putf (k := 1) kC_X6 kL_X6_15 rfl (by decide) rfl dX6_give_46 slb_14.c0 (Nat.le_of_ble_eq_true rfl) ⟨rfl, rfl⟩ rfl ?_
        refine z_genW (B := fun H => z_Lb H l (ac_14 ||| (x_lb_findAcceptable ac_14 rj_14 n att)) rj_14 ro_14 ∧ z_S2 H a n id wt ag tg att ni dy mn mv en wo br ∧ q_same h H l 2) ⟨z_Lb.put0 slb_14, sst_14.keep (q_same.set (a := l) (k := 1) (Nat.le_refl _) (by omega)) (by omega), pH.trans (q_same.set (by omega) (by omega))⟩ (fun h3 hB => ?_)
        obtain ⟨slb3, sst3, p3⟩ := hB
        refine q_aload_n (by first | assumption | omega | decide) dX6_give_49 rfl ?_
        refine q_dup dX6_give_50 rfl ?_
        refine q_getf (k := 2) (v := .int (rj_14)) kC_X6 kL_X6_19 rfl (by decide) dX6_give_51 slb3.c0 rfl ?_
        refine q_aload_n (by first | assumption | omega | decide) dX6_give_54 rfl ?_
        refine q_aload_n (by first | assumption | omega | decide) dX6_give_55 rfl ?_
        obtain ⟨v4, x4⟩ : ∃ z, x_lb_findRejectable (ac_14 ||| (x_lb_findAcceptable ac_14 rj_14 n att)) rj_14 n att = z := ⟨_, rfl⟩
        have e9 := e_lb_findRejectable (g := g) (h := h3) (d := d - 1) slb3 sst3 (by omega)
        rw [x4] at e9
        refine q_invV (mc' := 0) (ms' := 0) (d' := d - 1) (as := [.ref (a)]) dX6_give_56 kM_X6_findRejectable kL_X6_26 kI_X6_findRejectable kS_X6_findRejectable rfl (kC_X6.1) slb3.c0 rfl rfl (Nat.le_of_ble_eq_true rfl) (by omega) (by decide) (by omega) (by omega) (e9) (q_kR ?_) q_xR
        change q_W _ _ _ _ _ _ _ _ 59 [.ref (l), .ref (a), .int (c14_2), .int (nI (k)), .int (ac_14 ||| rj_14), q_u] [.int (v4), .int (rj_14), .ref (l)] _
        refine q_ior dX6_give_59 ?_
        refine q_putf (k := 2) kC_X6 kL_X6_19 rfl (by decide) rfl dX6_give_60 slb3.c0 (Nat.le_of_ble_eq_true rfl) ⟨rfl, rfl⟩ rfl ?_
        refine z_genW (B := fun H => z_Lb H l (ac_14 ||| (x_lb_findAcceptable ac_14 rj_14 n att)) (rj_14 ||| v4) ro_14 ∧ z_S2 H a n id wt ag tg att ni dy mn mv en wo br ∧ q_same h H l 2) ⟨z_Lb.put0 slb3, sst3.keep (q_same.set (a := l) (k := 1) (Nat.le_refl _) (by omega)) (by omega), p3.trans (q_same.set (by omega) (by omega))⟩ (fun h6 hB => ?_)
        obtain ⟨slb6, sst6, p6⟩ := hB
        refine q_aload_n (by first | assumption | omega | decide) dX6_give_63 rfl ?_
        refine q_getf (k := 1) (v := .int (ac_14 ||| (x_lb_findAcceptable ac_14 rj_14 n att))) kC_X6 kL_X6_15 rfl (by decide) dX6_give_64 slb6.c0 rfl ?_
        refine q_aload_n (by first | assumption | omega | decide) dX6_give_67 rfl ?_
        refine q_getf (k := 2) (v := .int (rj_14 ||| v4)) kC_X6 kL_X6_19 rfl (by decide) dX6_give_68 slb6.c0 rfl ?_
        refine q_ior dX6_give_71 ?_
        refine q_iload dX6_give_72 rfl ?_
        refine q_iconst (v := -1) dX6_give_74 rfl ?_
        refine q_ixor dX6_give_75 ?_
        refine q_iand dX6_give_76 ?_
        refine q_istore dX6_give_77 (by decide) rfl ?_
        change q_W _ _ _ _ _ _ _ _ _ [.ref (l), .ref (a), .int (c14_2), .int (nI (k)), .int (ac_14 ||| rj_14), .int (((ac_14 ||| (x_lb_findAcceptable ac_14 rj_14 n att)) ||| (rj_14 ||| v4)) &&& ((ac_14 ||| rj_14) ^^^ (-1 : Int32)))] [] _
        refine q_aload_n (by first | assumption | omega | decide) dX6_give_79 rfl ?_
        refine q_iload dX6_give_80 rfl ?_
        refine q_iload_n dX6_give_82 rfl ?_
        obtain ⟨y7_ro, x7⟩ : ∃ z, x_lb_noteRound ro_14 (((ac_14 ||| (x_lb_findAcceptable ac_14 rj_14 n att)) ||| (rj_14 ||| v4)) &&& ((ac_14 ||| rj_14) ^^^ (-1 : Int32))) (nI (k)) = z := ⟨_, rfl⟩
        have e9 := e_lb_noteRound (g := g) (h := h6) (d := d - 1) slb6 (((ac_14 ||| (x_lb_findAcceptable ac_14 rj_14 n att)) ||| (rj_14 ||| v4)) &&& ((ac_14 ||| rj_14) ^^^ (-1 : Int32))) (nI (k)) (by omega)
        rw [x7] at e9
        refine q_invV (mc' := 0) (ms' := 0) (d' := d - 1) (as := [.int (((ac_14 ||| (x_lb_findAcceptable ac_14 rj_14 n att)) ||| (rj_14 ||| v4)) &&& ((ac_14 ||| rj_14) ^^^ (-1 : Int32))), .int (nI (k))]) dX6_give_83 kM_X6_noteRound kL_X6_29 kI_X6_noteRound kS_X6_noteRound rfl (kC_X6.1) slb6.c0 rfl rfl (Nat.le_of_ble_eq_true rfl) (by omega) (by decide) (by omega) (by omega) (e9) (q_kC (fun h8 hB => ?_)) q_xC
        obtain ⟨t8_0, pp8⟩ := hB
        have slb8 := t8_0
        have sst8 := sst6.keep pp8 (by omega)
        have p8 := p6.trans (pp8.wide (by omega) (by omega))
        change q_W _ _ _ _ _ _ _ _ 86 [.ref (l), .ref (a), .int (c14_2), .int (nI (k)), .int (ac_14 ||| rj_14), .int (((ac_14 ||| (x_lb_findAcceptable ac_14 rj_14 n att)) ||| (rj_14 ||| v4)) &&& ((ac_14 ||| rj_14) ^^^ (-1 : Int32)))] [] _
        refine q_iload dX6_give_86 rfl ?_
        refine q_if_eq 95 dX6_give_88 (by decide) (fun b88 => ?_) (fun b88 => ?_)
        · refine q_iconst (v := 0) dX6_give_95 rfl ?_
          refine q_istore_n dX6_give_96 (by decide) rfl ?_
          change q_W _ _ _ _ _ _ _ _ _ [.ref (l), .ref (a), .int (0), .int (nI (k)), .int (ac_14 ||| rj_14), .int (((ac_14 ||| (x_lb_findAcceptable ac_14 rj_14 n att)) ||| (rj_14 ||| v4)) &&& ((ac_14 ||| rj_14) ^^^ (-1 : Int32)))] [] _
          refine q_iinc (x := nI (k)) (v := nI (k + 1)) dX6_give_97 rfl (nI_add _ 1) rfl ?_
          change q_W _ _ _ _ _ _ _ _ _ [.ref (l), .ref (a), .int (0), .int (nI (k + 1)), .int (ac_14 ||| rj_14), .int (((ac_14 ||| (x_lb_findAcceptable ac_14 rj_14 n att)) ||| (rj_14 ||| v4)) &&& ((ac_14 ||| rj_14) ^^^ (-1 : Int32)))] [] _
          refine q_goto 14 dX6_give_100 (by decide) ?_
          refine q_forget 4 ?_
          refine q_forget 5 ?_
          change q_W _ _ _ _ _ _ _ _ _ [.ref (l), .ref (a), .int (0), .int (nI (k + 1)), q_u, q_u] [] _
          exact ih (k + 1) 0 (ac_14 ||| (x_lb_findAcceptable ac_14 rj_14 n att)) (rj_14 ||| v4) y7_ro h8 slb8 sst8 p8 (by omega) (fun r14_0 r14_1 r14_2 e9 => K r14_0 r14_1 r14_2 (by simp only [x_lb_give_14, if_neg b15, x4, x7, if_pos b88]; exact e9))
        · refine q_iconst (v := 1) dX6_give_91 rfl ?_
          refine q_goto 96 dX6_give_92 (by decide) ?_
          refine q_istore_n dX6_give_96 (by decide) rfl ?_
          change q_W _ _ _ _ _ _ _ _ _ [.ref (l), .ref (a), .int (1), .int (nI (k)), .int (ac_14 ||| rj_14), .int (((ac_14 ||| (x_lb_findAcceptable ac_14 rj_14 n att)) ||| (rj_14 ||| v4)) &&& ((ac_14 ||| rj_14) ^^^ (-1 : Int32)))] [] _
          refine q_iinc (x := nI (k)) (v := nI (k + 1)) dX6_give_97 rfl (nI_add _ 1) rfl ?_
          change q_W _ _ _ _ _ _ _ _ _ [.ref (l), .ref (a), .int (1), .int (nI (k + 1)), .int (ac_14 ||| rj_14), .int (((ac_14 ||| (x_lb_findAcceptable ac_14 rj_14 n att)) ||| (rj_14 ||| v4)) &&& ((ac_14 ||| rj_14) ^^^ (-1 : Int32)))] [] _
          refine q_goto 14 dX6_give_100 (by decide) ?_
          refine q_forget 4 ?_
          refine q_forget 5 ?_
          change q_W _ _ _ _ _ _ _ _ _ [.ref (l), .ref (a), .int (1), .int (nI (k + 1)), q_u, q_u] [] _
          exact ih (k + 1) 1 (ac_14 ||| (x_lb_findAcceptable ac_14 rj_14 n att)) (rj_14 ||| v4) y7_ro h8 slb8 sst8 p8 (by omega) (fun r14_0 r14_1 r14_2 e9 => K r14_0 r14_1 r14_2 (by simp only [x_lb_give_14, if_neg b15, x4, x7, if_neg b88]; exact e9))
def x_lb_give (ro : Nat → Int32) (n : Nat) (att : Nat → Int32) : (Int32) × (Int32) × (Nat → Int32) := (match x_lb_give_14 n att 8 1 1 0 0 ro with | (a9_0, a9_1, a9_2) => (a9_0, a9_1, a9_2))
set_option maxRecDepth 100000 in
set_option maxHeartbeats 8000000 in
theorem e_lb_give {g : q_G} {h : q_H} {d : Nat} {l : Nat} {ac : Int32} {rj : Int32} {ro : Nat → Int32} (slb : z_Lb h l ac rj ro) {a : Nat} {n : Nat} {id : Nat → Int32} {wt : Nat → Int32} {ag : Nat → Int32} {tg : Nat → Int32} {att : Nat → Int32} {ni : Int32} {dy : Int32} {mn : Nat} {mv : Nat → Int32} {en : Int32} {wo : Int32} {br : Int32} (sst : z_S2 h a n id wt ag tg att ni dy mn mv en wo br)  (hs : a + 8 ≤ l ∨ l + 2 ≤ a)  (hd : 3 ≤ d) : q_Spec g mX6_give d 0 0 [.ref (l), .ref (a)] h (q_chg (.inl none) (fun h1 => z_Lb h1 l ((x_lb_give ro n att).1) ((x_lb_give ro n att).2.1) ((x_lb_give ro n att).2.2) ∧ z_S2 h1 a n id wt ag tg att ni dy mn mv en wo br ∧ q_same h h1 l 2)) := by
  have hr_lb := slb.r0
  have hr_st := sst.r0
  have hb_st_n := sst.bn
  have hb_st_mn := sst.bmn
  have ho_st_n := sst.bn
  have ho_st_mn := sst.bmn
  have p0 : q_same h h l 2 := q_same.rfl'
  refine q_enter (by decide +kernel) rfl rfl (Nat.le_of_ble_eq_true rfl) (fun hz => ?_)
  change q_W _ _ _ _ _ _ _ _ _ [.ref (l), .ref (a), q_u, q_u, q_u, q_u] [] _
  refine q_aload_n (by first | assumption | omega | decide) dX6_give_0 rfl ?_
  refine q_iconst (v := 0) dX6_give_1 rfl ?_
  refine q_putf (k := 1) kC_X6 kL_X6_15 rfl (by decide) rfl dX6_give_2 slb.c0 (Nat.le_of_ble_eq_true rfl) ⟨rfl, rfl⟩ rfl ?_
  refine z_genW (B := fun H => z_Lb H l 0 rj ro ∧ z_S2 H a n id wt ag tg att ni dy mn mv en wo br ∧ q_same h H l 2) ⟨z_Lb.put0 slb, sst.keep (q_same.set (a := l) (k := 1) (Nat.le_refl _) (by omega)) (by omega), p0.trans (q_same.set (by omega) (by omega))⟩ (fun h1 hB => ?_)
  obtain ⟨slb1, sst1, p1⟩ := hB
  refine q_aload_n (by first | assumption | omega | decide) dX6_give_5 rfl ?_
  refine q_iconst (v := 0) dX6_give_6 rfl ?_
  refine q_putf (k := 2) kC_X6 kL_X6_19 rfl (by decide) rfl dX6_give_7 slb1.c0 (Nat.le_of_ble_eq_true rfl) ⟨rfl, rfl⟩ rfl ?_
  refine z_genW (B := fun H => z_Lb H l 0 0 ro ∧ z_S2 H a n id wt ag tg att ni dy mn mv en wo br ∧ q_same h H l 2) ⟨z_Lb.put0 slb1, sst1.keep (q_same.set (a := l) (k := 1) (Nat.le_refl _) (by omega)) (by omega), p1.trans (q_same.set (by omega) (by omega))⟩ (fun h2 hB => ?_)
  obtain ⟨slb2, sst2, p2⟩ := hB
  refine q_iconst (v := 1) dX6_give_10 rfl ?_
  refine q_istore_n dX6_give_11 (by decide) rfl ?_
  change q_W _ _ _ _ _ _ _ _ _ [.ref (l), .ref (a), .int (1), q_u, q_u, q_u] [] _
  refine q_iconst (v := 1) dX6_give_12 rfl ?_
  refine q_istore_n dX6_give_13 (by decide) rfl ?_
  change q_W _ _ _ _ _ _ _ _ _ [.ref (l), .ref (a), .int (1), .int (1), q_u, q_u] [] _
  change q_W _ _ _ _ _ _ _ _ _ [.ref (l), .ref (a), .int (1), .int (1), q_u, q_u] [] _
  refine l_lb_give_14 hr_lb hr_st hs ho_st_n ho_st_mn (by omega) (by omega) (by omega) 8 1 1 0 0 ro h2 slb2 sst2 p2 (by omega) (fun a9_0 a9_1 a9_2 x9 h10 slb10 sst10 p10 => ?_)
  change q_W _ _ _ _ _ _ _ _ 103 [q_u, q_u, q_u, q_u, q_u, q_u] [] _
  have hE : x_lb_give ro n att = (a9_0, a9_1, a9_2) := by simp only [x_lb_give, x9]
  rw [hE]
  exact q_return dX6_give_103 rfl (by omega) (by omega) ⟨rfl, slb10, sst10, p10⟩
