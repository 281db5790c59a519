def x_pr_read_10 (cn : Nat) (f : Nat → Int32) : Nat → Nat → Nat → Int32 → (Nat → Int32) → (Nat → Int32) → (Nat → Int32) → Bool × Nat × Nat × Int32 × (Nat → Int32) × (Nat → Int32) × (Nat → Int32)
  | 0, pc, pp, po, vb, oa, ob => (false, pc, pp, po, vb, oa, ob)
  | r + 1, pc, pp, po, vb, oa, ob => (match x_pr_readCommand pc pp po vb oa ob cn f with | (v1, y1_pp, y1_po, y1_vb, y1_oa, y1_ob) => (if v1 then (if y1_pp = cn then (true, pc + 1, y1_pp, y1_po, y1_vb, y1_oa, y1_ob) else (match x_pr_readCharacter y1_pp cn f 59 with | (v3, y3_pp) => (if v3 then x_pr_read_10 cn f r (pc + 1) y3_pp y1_po y1_vb y1_oa y1_ob else (false, pc, y3_pp, y1_po, y1_vb, y1_oa, y1_ob)))) else (false, pc, y1_pp, y1_po, y1_vb, y1_oa, y1_ob)))
set_option maxRecDepth 100000 in
set_option maxHeartbeats 8000000 in
theorem l_pr_read_10 {g : q_G} {h0 : q_H} {d kc ks mc ms cn v : Nat} {f : Nat → Int32} (hcn : cn ≤ 60) (hv : v = 212 ∨ 225 ≤ v) (hd : 8 ≤ d) (hkc : kc ≤ mc) (hks : ks ≤ ms) : ∀ (r pc pp : Nat) (po : Int32) (vb oa ob : Nat → Int32) (h : q_H) (spr : z_Pr h 207 pc pp po vb oa ob) (stx : z_Sb h 211 cn f v) (pH : q_same h0 h 207 4) (hk : pc + r = 16), q_W g mX7_read d mc ms (q_chg (.inl (some (.int (z_b (x_pr_read_10 cn f r pc pp po vb oa ob).1)))) (fun h1 => z_Pr h1 207 ((x_pr_read_10 cn f r pc pp po vb oa ob).2.1) ((x_pr_read_10 cn f r pc pp po vb oa ob).2.2.1) ((x_pr_read_10 cn f r pc pp po vb oa ob).2.2.2.1) ((x_pr_read_10 cn f r pc pp po vb oa ob).2.2.2.2.1) ((x_pr_read_10 cn f r pc pp po vb oa ob).2.2.2.2.2.1) ((x_pr_read_10 cn f r pc pp po vb oa ob).2.2.2.2.2.2) ∧ z_Sb h1 211 cn f v ∧ q_same h0 h1 207 4)) kc ks 10 [.ref 207, .ref 211] [] h := by
  intro r
  induction r with
  | zero =>
    intro pc pp po vb oa ob h spr stx pH hk
    have hb_pr_pc := spr.bpc
    have hb_pr_pp := spr.bpp
    have hb_tx_cn := stx.bcn
    refine q_aload_n (by first | assumption | omega | decide) dX7_read_10 rfl ?_
    refine q_getf (k := 3) (v := .int (nI (pc))) kC_X7 kL_X7_21 rfl (by decide) dX7_read_11 spr.c0 rfl ?_
    refine q_bipush (v := 16) dX7_read_14 rfl ?_
    refine q_icmp_ge 77 dX7_read_16 (by decide) (fun b16 => ?_) (fun b16 => ?_)
    · have b16 := (nI_leI (a := 16) (b := pc) (by omega) (by omega)).mp b16
      refine q_iconst (v := 0) dX7_read_77 rfl ?_
      have hE : x_pr_read_10 cn f 0 pc pp po vb oa ob = (false, pc, pp, po, vb, oa, ob) := by simp only [x_pr_read_10]
      rw [hE]
      exact q_ireturn dX7_read_78 rfl rfl (by omega) (by omega) ⟨rfl, spr, stx, pH⟩
    · have b16 : ¬ (16 ≤ pc) := fun q => b16 ((nI_leI (a := 16) (b := pc) (by omega) (by omega)).mpr q)
      exact absurd b16 (by omega)
  | succ r ih =>
    intro pc pp po vb oa ob h spr stx pH hk
    have hb_pr_pc := spr.bpc
    have hb_pr_pp := spr.bpp
    have hb_tx_cn := stx.bcn
    refine q_aload_n (by first | assumption | omega | decide) dX7_read_10 rfl ?_
    refine q_getf (k := 3) (v := .int (nI (pc))) kC_X7 kL_X7_21 rfl (by decide) dX7_read_11 spr.c0 rfl ?_
    refine q_bipush (v := 16) dX7_read_14 rfl ?_
    refine q_icmp_ge 77 dX7_read_16 (by decide) (fun b16 => ?_) (fun b16 => ?_)
    · have b16 := (nI_leI (a := 16) (b := pc) (by omega) (by omega)).mp b16
      exact absurd b16 (by omega)
    · have b16 : ¬ (16 ≤ pc) := fun q => b16 ((nI_leI (a := 16) (b := pc) (by omega) (by omega)).mpr q)
      refine q_aload_n (by first | assumption | omega | decide) dX7_read_19 rfl ?_
      refine q_aload_n (by first | assumption | omega | decide) dX7_read_20 rfl ?_
      rcases x1 : x_pr_readCommand pc pp po vb oa ob cn f with ⟨v1, y1_pp, y1_po, y1_vb, y1_oa, y1_ob⟩
      have e9 := e_pr_readCommand (g := g) (h := h) (d := d - 1) spr stx (by omega) (by omega) (by omega) (by omega)
      rw [x1] at e9
      refine q_invV (mc' := 0) (ms' := 0) (d' := d - 1) (as := [.ref (211)]) dX7_read_21 kM_X7_readCommand kL_X7_31 kI_X7_readCommand kS_X7_readCommand rfl (kC_X7.1) spr.c0 rfl rfl (Nat.le_of_ble_eq_true rfl) (by omega) (by decide) (by omega) (by omega) (e9) (q_kC (fun h2 hB => ?_)) q_xC
      obtain ⟨t2_0, t2_1, pp2⟩ := hB
      have spr2 := t2_0
      have stx2 := t2_1
      have p2 := pH.trans (pp2.wide (by omega) (by omega))
      have hb_pr_pc := spr2.bpc
      have hb_pr_pp : y1_pp ≤ 60 := spr2.bpp
      change q_W _ _ _ _ _ _ _ _ 24 [.ref (207), .ref (211)] [.int (z_b (v1))] _
      refine q_if_ne 29 dX7_read_24 (by decide) (fun b24 => ?_) (fun b24 => ?_)
      · have b24 := z_b1 b24
        refine q_aload_n (by first | assumption | omega | decide) dX7_read_29 rfl ?_
        refine q_getf (k := 4) (v := .int (nI (y1_pp))) kC_X7 kL_X7_25 rfl (by decide) dX7_read_30 spr2.c0 rfl ?_
        refine q_aload_n (by first | assumption | omega | decide) dX7_read_33 rfl ?_
        obtain ⟨fs9, hc9⟩ := stx2.cell
        refine q_invV (mc' := 0) (ms' := 0) (d' := d - 1) (as := []) dX7_read_34 kM_J4_length_8abf5 kL_X7_35 kI_J4_length_8abf5 kS_J4_length_8abf5 rfl (kC_J4.1) hc9 rfl rfl (Nat.le_of_ble_eq_true rfl) (by omega) (by decide) (by omega) (by omega) (e_sbLen (d := d - 1) stx2 (by omega)) (q_kR ?_) q_xR
        change q_W _ _ _ _ _ _ _ _ 37 [.ref (207), .ref (211)] [.int (nI (cn)), .int (nI (y1_pp))] _
        refine q_icmp_ne 52 dX7_read_37 (by decide) (fun b37 => ?_) (fun b37 => ?_)
        · have b37 : ¬ (y1_pp = cn) := fun q => b37 ((nI_eq (a := y1_pp) (b := cn) (by omega) (by omega)).mpr q)
          refine q_aload_n (by first | assumption | omega | decide) dX7_read_52 rfl ?_
          refine q_aload_n (by first | assumption | omega | decide) dX7_read_53 rfl ?_
          refine q_bipush (v := 59) dX7_read_54 rfl ?_
          rcases x3 : x_pr_readCharacter y1_pp cn f 59 with ⟨v3, y3_pp⟩
          have e9 := e_pr_readCharacter (g := g) (h := h2) (d := d - 1) spr2 stx2 59 (by omega) (by omega) (by omega)
          rw [x3] at e9
          refine q_invV (mc' := 0) (ms' := 0) (d' := d - 1) (as := [.ref (211), .int (59)]) dX7_read_56 kM_X7_readCharacter kL_X7_41 kI_X7_readCharacter kS_X7_readCharacter rfl (kC_X7.1) spr2.c0 rfl rfl (Nat.le_of_ble_eq_true rfl) (by omega) (by decide) (by omega) (by omega) (e9) (q_kC (fun h4 hB => ?_)) q_xC
          obtain ⟨t4_0, t4_1, pp4⟩ := hB
          have spr4 := t4_0
          have stx4 := t4_1
          have p4 := p2.trans (pp4.wide (by omega) (by omega))
          have hb_pr_pc := spr4.bpc
          have hb_pr_pp : y3_pp ≤ 60 := spr4.bpp
          change q_W _ _ _ _ _ _ _ _ 59 [.ref (207), .ref (211)] [.int (z_b (v3))] _
          refine q_if_ne 64 dX7_read_59 (by decide) (fun b59 => ?_) (fun b59 => ?_)
          · have b59 := z_b1 b59
            refine q_aload_n (by first | assumption | omega | decide) dX7_read_64 rfl ?_
            refine q_dup dX7_read_65 rfl ?_
            refine q_getf (k := 3) (v := .int (nI (pc))) kC_X7 kL_X7_21 rfl (by decide) dX7_read_66 spr4.c0 rfl ?_
            refine q_iconst (v := 1) dX7_read_69 rfl ?_
            refine q_iaddN (a := pc) (b := 1) dX7_read_70 ?_
            change q_W _ _ _ _ _ _ _ _ _ _ [.int (nI (pc + 1)), .ref (207)] _
            refine q_putf (k := 3) kC_X7 kL_X7_21 rfl (by decide) rfl dX7_read_71 spr4.c0 (Nat.le_of_ble_eq_true rfl) ⟨rfl, rfl⟩ rfl ?_
            refine z_genW (B := fun H => z_Pr H 207 (pc + 1) y3_pp y1_po y1_vb y1_oa y1_ob ∧ z_Sb H 211 cn f v ∧ q_same h0 H 207 4) ⟨z_Pr.put0 spr4 (pc' := pc + 1) (pp' := y3_pp) (hbpc := by omega) (hbpp := by omega), stx4.keep (q_same.set (a := 207) (k := 1) (Nat.le_refl _) (by omega)) (by omega), p4.trans (q_same.set (by omega) (by omega))⟩ (fun h5 hB => ?_)
            obtain ⟨spr5, stx5, p5⟩ := hB
            have hb_pr_pc := spr5.bpc
            have hb_pr_pp : y3_pp ≤ 60 := spr5.bpp
            refine q_goto 10 dX7_read_74 (by decide) ?_
            have hE : x_pr_read_10 cn f (r + 1) pc pp po vb oa ob = x_pr_read_10 cn f r (pc + 1) y3_pp y1_po y1_vb y1_oa y1_ob := by simp only [x_pr_read_10, x1, if_pos b24, if_neg b37, x3, if_pos b59]
            rw [hE]
            exact ih (pc + 1) y3_pp y1_po y1_vb y1_oa y1_ob h5 spr5 stx5 p5 (by omega)
          · have b59 := z_b0n b59
            refine q_iconst (v := 0) dX7_read_62 rfl ?_
            have hE : x_pr_read_10 cn f (r + 1) pc pp po vb oa ob = (false, pc, y3_pp, y1_po, y1_vb, y1_oa, y1_ob) := by simp only [x_pr_read_10, x1, if_pos b24, if_neg b37, x3, if_neg b59]
            rw [hE]
            exact q_ireturn dX7_read_63 rfl rfl (by omega) (by omega) ⟨rfl, spr4, stx4, p4⟩
        · have b37 := (nI_eq (a := y1_pp) (b := cn) (by omega) (by omega)).mp b37
          refine q_aload_n (by first | assumption | omega | decide) dX7_read_40 rfl ?_
          refine q_dup dX7_read_41 rfl ?_
          refine q_getf (k := 3) (v := .int (nI (pc))) kC_X7 kL_X7_21 rfl (by decide) dX7_read_42 spr2.c0 rfl ?_
          refine q_iconst (v := 1) dX7_read_45 rfl ?_
          refine q_iaddN (a := pc) (b := 1) dX7_read_46 ?_
          change q_W _ _ _ _ _ _ _ _ _ _ [.int (nI (pc + 1)), .ref (207)] _
          refine q_putf (k := 3) kC_X7 kL_X7_21 rfl (by decide) rfl dX7_read_47 spr2.c0 (Nat.le_of_ble_eq_true rfl) ⟨rfl, rfl⟩ rfl ?_
          refine z_genW (B := fun H => z_Pr H 207 (pc + 1) y1_pp y1_po y1_vb y1_oa y1_ob ∧ z_Sb H 211 cn f v ∧ q_same h0 H 207 4) ⟨z_Pr.put0 spr2 (pc' := pc + 1) (pp' := y1_pp) (hbpc := by omega) (hbpp := by omega), stx2.keep (q_same.set (a := 207) (k := 1) (Nat.le_refl _) (by omega)) (by omega), p2.trans (q_same.set (by omega) (by omega))⟩ (fun h6 hB => ?_)
          obtain ⟨spr6, stx6, p6⟩ := hB
          have hb_pr_pc := spr6.bpc
          have hb_pr_pp : y1_pp ≤ 60 := spr6.bpp
          refine q_iconst (v := 1) dX7_read_50 rfl ?_
          have hE : x_pr_read_10 cn f (r + 1) pc pp po vb oa ob = (true, pc + 1, y1_pp, y1_po, y1_vb, y1_oa, y1_ob) := by simp only [x_pr_read_10, x1, if_pos b24, if_pos b37]
          rw [hE]
          exact q_ireturn dX7_read_51 rfl rfl (by omega) (by omega) ⟨rfl, spr6, stx6, p6⟩
      · have b24 := z_b0n b24
        refine q_iconst (v := 0) dX7_read_27 rfl ?_
        have hE : x_pr_read_10 cn f (r + 1) pc pp po vb oa ob = (false, pc, y1_pp, y1_po, y1_vb, y1_oa, y1_ob) := by simp only [x_pr_read_10, x1, if_neg b24]
        rw [hE]
        exact q_ireturn dX7_read_28 rfl rfl (by omega) (by omega) ⟨rfl, spr2, stx2, p2⟩
def x_pr_read (po : Int32) (vb oa ob : Nat → Int32) (cn : Nat) (f : Nat → Int32) : Bool × Nat × Nat × Int32 × (Nat → Int32) × (Nat → Int32) × (Nat → Int32) := x_pr_read_10 cn f 16 0 0 po vb oa ob
set_option maxRecDepth 100000 in
theorem e_pr_read {g : q_G} {h : q_H} {d pc pp : Nat} {po : Int32} {vb oa ob : Nat → Int32} (spr : z_Pr h 207 pc pp po vb oa ob) {cn v : Nat} {f : Nat → Int32} (stx : z_Sb h 211 cn f v) (hcn : cn ≤ 60) (hv : v = 212 ∨ 225 ≤ v) (hd : 8 ≤ d) : q_Spec g mX7_read d 0 0 [.ref 207, .ref 211] h (q_chg (.inl (some (.int (z_b (x_pr_read po vb oa ob cn f).1)))) (fun h1 => z_Pr h1 207 ((x_pr_read po vb oa ob cn f).2.1) ((x_pr_read po vb oa ob cn f).2.2.1) ((x_pr_read po vb oa ob cn f).2.2.2.1) ((x_pr_read po vb oa ob cn f).2.2.2.2.1) ((x_pr_read po vb oa ob cn f).2.2.2.2.2.1) ((x_pr_read po vb oa ob cn f).2.2.2.2.2.2) ∧ z_Sb h1 211 cn f v ∧ q_same h h1 207 4)) := by
  refine q_enter (by decide +kernel) rfl rfl (Nat.le_of_ble_eq_true rfl) (fun hz => ?_)
  change q_W _ _ _ _ _ _ _ _ _ [.ref 207, .ref 211] [] _
  have p0 : q_same h h 207 4 := q_same.rfl'
  refine q_aload_n (by decide) dX7_read_0 rfl ?_
  refine q_iconst (v := 0) dX7_read_1 rfl ?_
  refine q_putf (k := 4) kC_X7 kL_X7_25 rfl (by decide) rfl dX7_read_2 spr.c0 (Nat.le_of_ble_eq_true rfl) ⟨rfl, rfl⟩ rfl ?_
  refine z_genW (B := fun H => z_Pr H 207 pc 0 po vb oa ob ∧ z_Sb H 211 cn f v ∧ q_same h H 207 4) ⟨z_Pr.put0 spr (pp' := 0) (hbpc := spr.bpc) (hbpp := by omega), stx.keep (q_same.set (a := 207) (k := 1) (Nat.le_refl _) (by omega)) (by omega), p0.trans (q_same.set (by omega) (by omega))⟩ (fun h1 hB => ?_)
  obtain ⟨s1, x1, p1⟩ := hB
  refine q_aload_n (by decide) dX7_read_5 rfl ?_
  refine q_iconst (v := 0) dX7_read_6 rfl ?_
  refine q_putf (k := 3) kC_X7 kL_X7_21 rfl (by decide) rfl dX7_read_7 s1.c0 (Nat.le_of_ble_eq_true rfl) ⟨rfl, rfl⟩ rfl ?_
  refine z_genW (B := fun H => z_Pr H 207 0 0 po vb oa ob ∧ z_Sb H 211 cn f v ∧ q_same h H 207 4) ⟨z_Pr.put0 s1 (pc' := 0) (hbpc := by omega) (hbpp := by omega), x1.keep (q_same.set (a := 207) (k := 1) (Nat.le_refl _) (by omega)) (by omega), p1.trans (q_same.set (by omega) (by omega))⟩ (fun h2 hB => ?_)
  obtain ⟨s2, x2, p2⟩ := hB
  exact l_pr_read_10 hcn hv hd (by omega) (by omega) 16 0 0 po vb oa ob h2 s2 x2 p2 (by omega)