def z_sub (n : Nat) (s c : Int32) : Prop := ∀ j, j < 32 → z_bi c j = true → j < n ∧ z_bi s j = false
theorem z_sub.add {n k : Nat} {s c : Int32} (h : z_sub n s c) (hk : k < n) (hn : n ≤ 8) (hs : z_bi s k = false) : z_sub n s (c ||| ((1 : Int32) <<< (nI k &&& 31))) := fun j hj hb => by
  rw [z_bi_or, z_bi_shl (by omega) hj, Bool.or_eq_true] at hb
  rcases hb with hb | hb
  · exact h j hj hb
  · obtain rfl := of_decide_eq_true hb
    exact ⟨hk, hs⟩
theorem z_sub0 {n : Nat} {s : Int32} : z_sub n s 0 := fun j _ hb => by
  rw [z_bi_0] at hb
  cases hb
theorem z_lab7 {al : Nat → Int32} {ac rj : Int32} {n : Nat} (hn : n ≤ 8) : ∀ (r k : Nat) (c : Int32), k + r = n → z_sub n (ac ||| rj) c → z_sub n (ac ||| rj) (x_mo_labels_7 al ac rj n r k c) := by
  intro r
  induction r with
  | zero => intro k c _ h; exact h
  | succ r ih =>
    intro k c hk h
    simp only [x_mo_labels_7]
    split
    · next e =>
      split
      · exact ih _ _ (by omega) (h.add (by omega) hn ((z_bit0 _ (by omega)).mp e))
      · exact ih _ _ (by omega) h
    · exact ih _ _ (by omega) h
theorem z_lab77 {al : Nat → Int32} {ac rj a : Int32} {n : Nat} (hn : n ≤ 8) : ∀ (r k : Nat) (c : Int32), k + r = n → z_sub n ((ac ||| a) ||| rj) c → z_sub n ((ac ||| a) ||| rj) (x_mo_labels_77 al ac rj n a r k c) := by
  intro r
  induction r with
  | zero => intro k c _ h; exact h
  | succ r ih =>
    intro k c hk h
    simp only [x_mo_labels_77]
    split
    · next e =>
      split
      · exact ih _ _ (by omega) h
      · exact ih _ _ (by omega) (h.add (by omega) hn ((z_bit0 _ (by omega)).mp e))
    · exact ih _ _ (by omega) h
theorem z_ne0 {x : Int32} (h : ¬ x = 0) : ∃ j, j < 32 ∧ z_bi x j = true := by
  apply Classical.byContradiction
  intro q
  refine h (z_bi_ext (fun j hj => ?_))
  rw [z_bi_0]
  cases e : z_bi x j with
  | false => rfl
  | true => exact absurd ⟨j, hj, e⟩ q
theorem z_labels_more {al ro : Nat → Int32} {ac rj xr : Int32} {n : Nat} (hn : n ≤ 8) (h : (x_mo_labels al ac rj ro n xr).1 = true) : z_cn (ac ||| rj) n < z_cn ((x_mo_labels al ac rj ro n xr).2.1 ||| (x_mo_labels al ac rj ro n xr).2.2.1) n := by
  unfold x_mo_labels at h ⊢
  have h7 := z_lab7 (al := al) (ac := ac) (rj := rj) hn n 0 0 (by omega) z_sub0
  have h77 := z_lab77 (al := al) (ac := ac) (rj := rj) (a := x_mo_labels_7 al ac rj n n 0 0) hn n 0 0 (by omega) z_sub0
  dsimp only at h ⊢
  generalize x_mo_labels_7 al ac rj n n 0 0 = a at *
  generalize x_mo_labels_77 al ac rj n a n 0 0 = b at *
  by_cases e : a ||| b = 0
  · rw [if_pos e] at h
    cases h
  · rw [if_neg e]
    obtain ⟨j, hj, hb⟩ := z_ne0 e
    refine z_cn_lt n (fun i hi hx => ?_) ?_
    · simp only [z_bi_or, Bool.or_eq_true] at hx ⊢
      rcases hx with q | q
      · exact Or.inl (Or.inl q)
      · exact Or.inr (Or.inl q)
    · rw [z_bi_or, Bool.or_eq_true] at hb
      rcases hb with hb | hb
      · obtain ⟨q1, q2⟩ := h7 j hj hb
        refine ⟨j, q1, q2, ?_⟩
        simp only [z_bi_or, hb]
        simp
      · obtain ⟨q1, q2⟩ := h77 j hj hb
        simp only [z_bi_or, Bool.or_eq_false_iff] at q2
        refine ⟨j, q1, ?_, ?_⟩
        · simp only [z_bi_or, q2.1.1, q2.2, Bool.or_false]
        · simp only [z_bi_or, hb]
          simp
/-- the rounds from the k-th on; r may follow -/
def x_la_12 (al : Nat → Int32) (n : Nat) : Nat → Nat → Int32 → Int32 → (Nat → Int32) → Int32 × Int32 × (Nat → Int32)
  | 0, _, ac, rj, ro => (ac, rj, ro)
  | r + 1, k, ac, rj, ro => match x_mo_labels al ac rj ro n (nI k) with
    | (v, ac', rj', ro') => if v then x_la_12 al n r (k + 1) ac' rj' ro' else (ac', rj', ro')
def x_mo_labelsAll (al : Nat → Int32) (n : Nat) (ro : Nat → Int32) : Int32 × Int32 × (Nat → Int32) := x_la_12 al n (n + 1) 1 0 0 ro
set_option maxRecDepth 100000 in
set_option maxHeartbeats 8000000 in
theorem l_mo_labelsAll {g : q_G} {h0 : q_H} {d mc ms kc ks : Nat} {th : Int32} {al : Nat → Int32} {cg : Nat} {sv : Bool} {rs : Int32} {ad : Nat → Int32} {bf : Nat → Int32} {ln : Nat → Int32} {lz : Nat} {ip : Nat → Int32} {ty : Nat} {he : Nat} {er : Int32} {ea : Int32} {fa : Int32} {cm : Nat → Int32} {cn : Nat} {n : Nat} {mn : Nat} (hd : 5 ≤ d) (hkc : kc ≤ mc) (hks : ks ≤ ms) : ∀ (r k : Nat) (ac rj : Int32) (ro : Nat → Int32) (h : q_H) (smo : z_Mo h 215 th al cg sv rs ac rj ro ad bf ln lz ip ty he er ea fa cm cn n mn) (pH : q_same h0 h 215 8) (hr : n + 1 ≤ z_cn (ac ||| rj) n + r), q_W g mX11_labelsAll d mc ms (q_chg (.inl none) (fun h1 => z_Mo h1 215 th al cg sv rs ((x_la_12 al n r k ac rj ro).1) ((x_la_12 al n r k ac rj ro).2.1) ((x_la_12 al n r k ac rj ro).2.2) ad bf ln lz ip ty he er ea fa cm cn n mn ∧ q_same h0 h1 215 8)) kc ks 12 [.ref 215, .int (nI k)] [] h := by
  intro r
  induction r with
  | zero =>
    intro k ac rj ro h smo pH hr
    have := z_cn_le (ac ||| rj) n
    omega
  | succ r ih =>
    intro k ac rj ro h smo pH hr
    have hb_mo_cg := smo.bcg
    have hb_mo_lz := smo.blz
    have hb_mo_ty := smo.bty
    have hb_mo_he := smo.bhe
    have hb_mo_cn := smo.bcn
    have hb_mo_n := smo.bn
    have hb_mo_mn := smo.bmn
    refine q_aload_n (by first | assumption | omega | decide | (rw [q_R0e]; omega)) dX11_labelsAll_12 rfl ?_
    refine q_iload_n dX11_labelsAll_13 rfl ?_
    rcases x1 : x_mo_labels al ac rj ro n (nI (k)) with ⟨v1, y1_ac, y1_rj, y1_ro⟩
    have e9 := e_mo_labels (g := g) (h := h) (d := d - 1) smo (nI (k)) (by omega)
    rw [x1] at e9
    refine q_invV (mc' := 0) (ms' := 0) (d' := d - 1) (as := [.int (nI (k))]) dX11_labelsAll_14 kM_X11_labels kL_X11_83 kI_X11_labels kS_X11_labels rfl (kC_X11.1) smo.c0 rfl rfl (Nat.le_of_ble_eq_true rfl) (by omega) (by decide) (by omega) (by omega) (e9) (q_kC (fun h2 hB => ?_)) q_xC
    obtain ⟨t2_0, pp2⟩ := hB
    have smo2 := t2_0
    have p2 := pH.trans (pp2.wide (by omega) (by omega))
    have hb_mo_cg := smo2.bcg
    have hb_mo_lz := smo2.blz
    have hb_mo_ty := smo2.bty
    have hb_mo_he := smo2.bhe
    have hb_mo_cn := smo2.bcn
    have hb_mo_n := smo2.bn
    have hb_mo_mn := smo2.bmn
    change q_W _ _ _ _ _ _ _ _ 17 [.ref (215), .int (nI (k))] [.int (z_b (v1))] _
    refine q_if_eq 26 dX11_labelsAll_17 (by decide) (fun b17 => ?_) (fun b17 => ?_)
    · have b17 := z_b0n b17
      have hE : x_la_12 al n (r + 1) k ac rj ro = (y1_ac, y1_rj, y1_ro) := by simp only [x_la_12, x1, if_neg b17]
      rw [hE]
      exact q_return dX11_labelsAll_26 rfl (by omega) (by omega) ⟨rfl, smo2, p2⟩
    · have b17 := z_b1 b17
      refine q_iinc (x := nI (k)) (v := nI (k + 1)) dX11_labelsAll_20 rfl (nI_add _ 1) rfl ?_
      change q_W _ _ _ _ _ _ _ _ _ [.ref (215), .int (nI (k + 1))] [] _
      refine q_goto 12 dX11_labelsAll_23 (by decide) ?_
      have hE : x_la_12 al n (r + 1) k ac rj ro = x_la_12 al n r (k + 1) y1_ac y1_rj y1_ro := by simp only [x_la_12, x1, if_pos b17]
      rw [hE]
      have hm9 := z_labels_more (al := al) (ro := ro) (ac := ac) (rj := rj) (xr := nI k) smo.bn (by rw [x1]; exact b17)
      rw [x1] at hm9
      dsimp only at hm9
      exact ih (k + 1) y1_ac y1_rj y1_ro h2 smo2 p2 (by omega)
theorem e_mo_labelsAll {g : q_G} {h : q_H} {d : Nat} {th : Int32} {al : Nat → Int32} {cg : Nat} {sv : Bool} {rs : Int32} {ac : Int32} {rj : Int32} {ro : Nat → Int32} {ad : Nat → Int32} {bf : Nat → Int32} {ln : Nat → Int32} {lz : Nat} {ip : Nat → Int32} {ty : Nat} {he : Nat} {er : Int32} {ea : Int32} {fa : Int32} {cm : Nat → Int32} {cn : Nat} {n : Nat} {mn : Nat} (smo : z_Mo h 215 th al cg sv rs ac rj ro ad bf ln lz ip ty he er ea fa cm cn n mn) (hd : 5 ≤ d) : q_Spec g mX11_labelsAll d 0 0 [.ref 215] h (q_chg (.inl none) (fun h1 => z_Mo h1 215 th al cg sv rs ((x_mo_labelsAll al n ro).1) ((x_mo_labelsAll al n ro).2.1) ((x_mo_labelsAll al n ro).2.2) ad bf ln lz ip ty he er ea fa cm cn n mn ∧ q_same h h1 215 8)) := by
  have hbn := smo.bn
  unfold x_mo_labelsAll
  refine q_enter (by decide +kernel) rfl rfl (Nat.le_of_ble_eq_true rfl) (fun hz => ?_)
  change q_W _ _ _ _ _ _ _ _ _ [.ref 215, q_u] [] _
  have p0 : q_same h h 215 8 := q_same.rfl'
  refine q_aload_n (by decide) dX11_labelsAll_0 rfl ?_
  refine q_iconst (v := 0) dX11_labelsAll_1 rfl ?_
  refine q_putf (k := 5) kC_X11 kL_X11_74 rfl (by decide) rfl dX11_labelsAll_2 smo.c0 (Nat.le_of_ble_eq_true rfl) ⟨rfl, rfl⟩ rfl ?_
  refine z_genW (B := fun H => z_Mo H 215 th al cg sv rs 0 rj ro ad bf ln lz ip ty he er ea fa cm cn n mn ∧ q_same h H 215 8) ⟨z_Mo.put0 smo (hbcg := smo.bcg) (hblz := smo.blz) (hbty := smo.bty) (hbhe := smo.bhe) (hbcn := smo.bcn), p0.trans (q_same.set (by omega) (by omega))⟩ (fun h1 hB => ?_)
  obtain ⟨s1, p1⟩ := hB
  refine q_aload_n (by decide) dX11_labelsAll_5 rfl ?_
  refine q_iconst (v := 0) dX11_labelsAll_6 rfl ?_
  refine q_putf (k := 6) kC_X11 kL_X11_77 rfl (by decide) rfl dX11_labelsAll_7 s1.c0 (Nat.le_of_ble_eq_true rfl) ⟨rfl, rfl⟩ rfl ?_
  refine z_genW (B := fun H => z_Mo H 215 th al cg sv rs 0 0 ro ad bf ln lz ip ty he er ea fa cm cn n mn ∧ q_same h H 215 8) ⟨z_Mo.put0 s1 (hbcg := smo.bcg) (hblz := smo.blz) (hbty := smo.bty) (hbhe := smo.bhe) (hbcn := smo.bcn), p1.trans (q_same.set (by omega) (by omega))⟩ (fun h2 hB => ?_)
  obtain ⟨s2, p2⟩ := hB
  refine q_iconst (v := 1) dX11_labelsAll_10 rfl ?_
  refine q_istore_n dX11_labelsAll_11 (by decide) rfl ?_
  change q_W _ _ _ _ _ _ _ _ 12 [.ref 215, .int (nI 1)] [] _
  have hr9 : n + 1 ≤ z_cn (0 ||| 0) n + (n + 1) := by omega
  have key := l_mo_labelsAll (g := g) (mc := 0) (ms := 0) (kc := 0) (ks := 0) hd (Nat.le_refl _) (Nat.le_refl _) (n + 1) 1 0 0 ro h2 s2 p2 hr9
  exact key
theorem z_mlab_nar (ac rj : Int32) (j : Nat) : narrow .char (.int (x_mo_labelOf ac rj j)) = .int (x_mo_labelOf ac rj j) := by
  unfold x_mo_labelOf
  split
  · rfl
  · split <;> rfl
def x_mo_status (al : Nat → Int32) (ro : Nat → Int32) (n : Nat) (xid : Int32) : (Int32) × (Int32) × (Int32) × (Int32) × (Nat → Int32) := (match x_mo_labelsAll al n ro with | (y1_ac, y1_rj, y1_ro) => (if x_th n al xid then (x_mo_labelOf y1_ac y1_rj (x_pl n al xid - 1), (if x_th n al xid then 0 else 1), y1_ac, y1_rj, y1_ro) else (0, (if x_th n al xid then 0 else 1), y1_ac, y1_rj, y1_ro)))
set_option maxRecDepth 100000 in
set_option maxHeartbeats 8000000 in
theorem e_mo_status {g : q_G} {h : q_H} {d : Nat} {th : Int32} {al : Nat → Int32} {cg : Nat} {sv : Bool} {rs : Int32} {ac : Int32} {rj : Int32} {ro : Nat → Int32} {ad : Nat → Int32} {bf : Nat → Int32} {ln : Nat → Int32} {lz : Nat} {ip : Nat → Int32} {ty : Nat} {he : Nat} {er : Int32} {ea : Int32} {fa : Int32} {cm : Nat → Int32} {cn : Nat} {n : Nat} {mn : Nat} (smo : z_Mo h 215 th al cg sv rs ac rj ro ad bf ln lz ip ty he er ea fa cm cn n mn)  (xid : Int32)   (hd : 6 ≤ d) : q_Spec g mX11_status d 0 0 [.ref (215), .int (xid)] h (q_chg (.inl (some (.int (x_mo_status al ro n xid).1))) (fun h1 => z_Mo h1 215 ((x_mo_status al ro n xid).2.1) al cg sv rs ((x_mo_status al ro n xid).2.2.1) ((x_mo_status al ro n xid).2.2.2.1) ((x_mo_status al ro n xid).2.2.2.2) ad bf ln lz ip ty he er ea fa cm cn n mn ∧ q_same h h1 215 8)) := by
  have hb_mo_cg := smo.bcg
  have hb_mo_lz := smo.blz
  have hb_mo_ty := smo.bty
  have hb_mo_he := smo.bhe
  have hb_mo_cn := smo.bcn
  have hb_mo_n := smo.bn
  have hb_mo_mn := smo.bmn
  have ho_mo_cg := smo.bcg
  have ho_mo_lz := smo.blz
  have ho_mo_ty := smo.bty
  have ho_mo_he := smo.bhe
  have ho_mo_cn := smo.bcn
  have ho_mo_n := smo.bn
  have ho_mo_mn := smo.bmn
  have p0 : q_same h h 215 8 := q_same.rfl'
  refine q_enter (by decide +kernel) rfl rfl (Nat.le_of_ble_eq_true rfl) (fun hz => ?_)
  change q_W _ _ _ _ _ _ _ _ _ [.ref (215), .int (xid)] [] _
  refine q_aload_n (by first | assumption | omega | decide | (rw [q_R0e]; omega)) dX11_status_0 rfl ?_
  rcases x1 : x_mo_labelsAll al n ro with ⟨y1_ac, y1_rj, y1_ro⟩
  have e9 := e_mo_labelsAll (g := g) (h := h) (d := d - 1) smo (by omega)
  rw [x1] at e9
  refine q_invV (mc' := 0) (ms' := 0) (d' := d - 1) (as := []) dX11_status_1 kM_X11_labelsAll kL_X11_191 kI_X11_labelsAll kS_X11_labelsAll rfl (kC_X11.1) smo.c0 rfl rfl (Nat.le_of_ble_eq_true rfl) (by omega) (by decide) (by omega) (by omega) (e9) (q_kC (fun h2 hB => ?_)) q_xC
  obtain ⟨t2_0, pp2⟩ := hB
  have smo2 := t2_0
  have p2 := p0.trans (pp2.wide (by omega) (by omega))
  have hb_mo_cg := smo2.bcg
  have hb_mo_lz := smo2.blz
  have hb_mo_ty := smo2.bty
  have hb_mo_he := smo2.bhe
  have hb_mo_cn := smo2.bcn
  have hb_mo_n := smo2.bn
  have hb_mo_mn := smo2.bmn
  change q_W _ _ _ _ _ _ _ _ 4 [.ref (215), .int (xid)] [] _
  refine q_aload_n (by first | assumption | omega | decide | (rw [q_R0e]; omega)) dX11_status_4 rfl ?_
  refine q_aload_n (by first | assumption | omega | decide | (rw [q_R0e]; omega)) dX11_status_5 rfl ?_
  refine q_iload_n dX11_status_6 rfl ?_
  refine q_invV (mc' := 0) (ms' := 0) (d' := d - 1) (as := [.int (xid)]) dX11_status_7 kM_X11_isThere kL_X11_141 kI_X11_isThere kS_X11_isThere rfl (kC_X11.1) smo2.c0 rfl rfl (Nat.le_of_ble_eq_true rfl) (by omega) (by decide) (by omega) (by omega) (e_isThere (d := d - 1) smo2 xid (by omega)) (q_kR ?_) q_xR
  change q_W _ _ _ _ _ _ _ _ 10 [.ref (215), .int (xid)] [.int (z_b (x_th n al xid)), .ref (215)] _
  refine q_invV (mc' := 0) (ms' := 0) (d' := d - 1) (as := [.int (z_b (x_th n al xid))]) dX11_status_10 kM_X11_isFine kL_X11_181 kI_X11_isFine kS_X11_isFine rfl (kC_X11.1) smo2.c0 rfl rfl (Nat.le_of_ble_eq_true rfl) (by omega) (by decide) (by omega) (by omega) (e_isFine (d := d - 1) smo2 (xb := (x_th n al xid)) (by omega)) (q_kC (fun h3 hB => ?_)) q_xC
  obtain ⟨t3_0, pp3⟩ := hB
  have smo3 : z_Mo h3 215 (if x_th n al xid then 0 else 1) al cg sv rs y1_ac y1_rj y1_ro ad bf ln lz ip ty he er ea fa cm cn n mn := t3_0
  have p3 := p2.trans (pp3.wide (by omega) (by omega))
  have hb_mo_cg := smo3.bcg
  have hb_mo_lz := smo3.blz
  have hb_mo_ty := smo3.bty
  have hb_mo_he := smo3.bhe
  have hb_mo_cn := smo3.bcn
  have hb_mo_n := smo3.bn
  have hb_mo_mn := smo3.bmn
  change q_W _ _ _ _ _ _ _ _ 13 [.ref (215), .int (xid)] [.int (z_b (x_th n al xid))] _
  refine q_if_eq 28 dX11_status_13 (by decide) (fun b13 => ?_) (fun b13 => ?_)
  · have b13 := z_b0n b13
    have fb13 : x_pl n al xid = 0 := z_nth b13
    refine q_iconst (v := 0) dX11_status_28 rfl ?_
    have hE : x_mo_status al ro n xid = (0, (if x_th n al xid then 0 else 1), y1_ac, y1_rj, y1_ro) := by simp only [x_mo_status, x1, if_neg b13]
    rw [hE]
    exact q_ireturn dX11_status_29 rfl rfl (by omega) (by omega) ⟨rfl, smo3, p3⟩
  · have b13 := z_b1 b13
    have fb13 : 0 < x_pl n al xid := z_th b13
    refine q_aload_n (by first | assumption | omega | decide | (rw [q_R0e]; omega)) dX11_status_16 rfl ?_
    refine q_aload_n (by first | assumption | omega | decide | (rw [q_R0e]; omega)) dX11_status_17 rfl ?_
    refine q_iload_n dX11_status_18 rfl ?_
    have g4 : x_pl n al xid ≤ n := x_pl_le
    refine q_invV (mc' := 0) (ms' := 0) (d' := d - 1) (as := [.int (xid)]) dX11_status_19 kM_X11_place kL_X11_57 kI_X11_place kS_X11_place rfl (kC_X11.1) smo3.c0 rfl rfl (Nat.le_of_ble_eq_true rfl) (by omega) (by decide) (by omega) (by omega) (e_placeP (d := d - 1) smo3 xid (by omega) (by omega)) (q_kR ?_) q_xR
    change q_W _ _ _ _ _ _ _ _ 22 [.ref (215), .int (xid)] [.int (nI (x_pl n al xid - 1)), .ref (215)] _
    refine q_invV (mc' := 0) (ms' := 0) (d' := d - 1) (as := [.int (nI (x_pl n al xid - 1))]) dX11_status_22 kM_X11_labelOf kL_X11_194 kI_X11_labelOf kS_X11_labelOf rfl (kC_X11.1) smo3.c0 rfl rfl (Nat.le_of_ble_eq_true rfl) (by omega) (by decide) (by omega) (by omega) (e_mo_labelOf (d := d - 1) smo3 (x_pl n al xid - 1) (by omega) (by omega)) (q_kR ?_) q_xR
    change q_W _ _ _ _ _ _ _ _ 25 [.ref (215), .int (xid)] [.int (x_mo_labelOf y1_ac y1_rj (x_pl n al xid - 1))] _
    refine q_goto 29 dX11_status_25 (by decide) ?_
    have hE : x_mo_status al ro n xid = (x_mo_labelOf y1_ac y1_rj (x_pl n al xid - 1), (if x_th n al xid then 0 else 1), y1_ac, y1_rj, y1_ro) := by simp only [x_mo_status, x1, if_pos b13]
    rw [hE]
    exact q_ireturn dX11_status_29 rfl (z_mlab_nar _ _ _) (by omega) (by omega) ⟨rfl, smo3, p3⟩
def x_mo_roundOf (al : Nat → Int32) (ro : Nat → Int32) (n : Nat) (xid : Int32) : (Int32) × (Int32) × (Int32) × (Int32) × (Nat → Int32) := (match x_mo_labelsAll al n ro with | (y1_ac, y1_rj, y1_ro) => (if x_th n al xid then (if (x_mo_labelOf y1_ac y1_rj (x_pl n al xid - 1)) = (117) then (0, 1, y1_ac, y1_rj, y1_ro) else (y1_ro (x_pl n al xid - 1), 0, y1_ac, y1_rj, y1_ro)) else (0, 1, y1_ac, y1_rj, y1_ro)))
set_option maxRecDepth 100000 in
set_option maxHeartbeats 8000000 in
theorem e_mo_roundOf {g : q_G} {h : q_H} {d : Nat} {th : Int32} {al : Nat → Int32} {cg : Nat} {sv : Bool} {rs : Int32} {ac : Int32} {rj : Int32} {ro : Nat → Int32} {ad : Nat → Int32} {bf : Nat → Int32} {ln : Nat → Int32} {lz : Nat} {ip : Nat → Int32} {ty : Nat} {he : Nat} {er : Int32} {ea : Int32} {fa : Int32} {cm : Nat → Int32} {cn : Nat} {n : Nat} {mn : Nat} (smo : z_Mo h 215 th al cg sv rs ac rj ro ad bf ln lz ip ty he er ea fa cm cn n mn)  (xid : Int32)   (hd : 6 ≤ d) : q_Spec g mX11_roundOf d 0 0 [.ref (215), .int (xid)] h (q_chg (.inl (some (.int (x_mo_roundOf al ro n xid).1))) (fun h1 => z_Mo h1 215 ((x_mo_roundOf al ro n xid).2.1) al cg sv rs ((x_mo_roundOf al ro n xid).2.2.1) ((x_mo_roundOf al ro n xid).2.2.2.1) ((x_mo_roundOf al ro n xid).2.2.2.2) ad bf ln lz ip ty he er ea fa cm cn n mn ∧ q_same h h1 215 8)) := by
  have hb_mo_cg := smo.bcg
  have hb_mo_lz := smo.blz
  have hb_mo_ty := smo.bty
  have hb_mo_he := smo.bhe
  have hb_mo_cn := smo.bcn
  have hb_mo_n := smo.bn
  have hb_mo_mn := smo.bmn
  have ho_mo_cg := smo.bcg
  have ho_mo_lz := smo.blz
  have ho_mo_ty := smo.bty
  have ho_mo_he := smo.bhe
  have ho_mo_cn := smo.bcn
  have ho_mo_n := smo.bn
  have ho_mo_mn := smo.bmn
  have p0 : q_same h h 215 8 := q_same.rfl'
  refine q_enter (by decide +kernel) rfl rfl (Nat.le_of_ble_eq_true rfl) (fun hz => ?_)
  change q_W _ _ _ _ _ _ _ _ _ [.ref (215), .int (xid)] [] _
  refine q_aload_n (by first | assumption | omega | decide | (rw [q_R0e]; omega)) dX11_roundOf_0 rfl ?_
  rcases x1 : x_mo_labelsAll al n ro with ⟨y1_ac, y1_rj, y1_ro⟩
  have e9 := e_mo_labelsAll (g := g) (h := h) (d := d - 1) smo (by omega)
  rw [x1] at e9
  refine q_invV (mc' := 0) (ms' := 0) (d' := d - 1) (as := []) dX11_roundOf_1 kM_X11_labelsAll kL_X11_191 kI_X11_labelsAll kS_X11_labelsAll rfl (kC_X11.1) smo.c0 rfl rfl (Nat.le_of_ble_eq_true rfl) (by omega) (by decide) (by omega) (by omega) (e9) (q_kC (fun h2 hB => ?_)) q_xC
  obtain ⟨t2_0, pp2⟩ := hB
  have smo2 := t2_0
  have p2 := p0.trans (pp2.wide (by omega) (by omega))
  have hb_mo_cg := smo2.bcg
  have hb_mo_lz := smo2.blz
  have hb_mo_ty := smo2.bty
  have hb_mo_he := smo2.bhe
  have hb_mo_cn := smo2.bcn
  have hb_mo_n := smo2.bn
  have hb_mo_mn := smo2.bmn
  change q_W _ _ _ _ _ _ _ _ 4 [.ref (215), .int (xid)] [] _
  refine q_aload_n (by first | assumption | omega | decide | (rw [q_R0e]; omega)) dX11_roundOf_4 rfl ?_
  refine q_aload_n (by first | assumption | omega | decide | (rw [q_R0e]; omega)) dX11_roundOf_5 rfl ?_
  refine q_iload_n dX11_roundOf_6 rfl ?_
  refine q_invV (mc' := 0) (ms' := 0) (d' := d - 1) (as := [.int (xid)]) dX11_roundOf_7 kM_X11_isThere kL_X11_141 kI_X11_isThere kS_X11_isThere rfl (kC_X11.1) smo2.c0 rfl rfl (Nat.le_of_ble_eq_true rfl) (by omega) (by decide) (by omega) (by omega) (e_isThere (d := d - 1) smo2 xid (by omega)) (q_kR ?_) q_xR
  change q_W _ _ _ _ _ _ _ _ 10 [.ref (215), .int (xid)] [.int (z_b (x_th n al xid)), .ref (215)] _
  refine q_if_eq 31 dX11_roundOf_10 (by decide) (fun b10 => ?_) (fun b10 => ?_)
  · have b10 := z_b0n b10
    have fb10 : x_pl n al xid = 0 := z_nth b10
    refine q_iconst (v := 0) dX11_roundOf_31 rfl ?_
    refine q_invV (mc' := 0) (ms' := 0) (d' := d - 1) (as := [.int (0)]) dX11_roundOf_32 kM_X11_isFine kL_X11_181 kI_X11_isFine kS_X11_isFine rfl (kC_X11.1) smo2.c0 rfl rfl (Nat.le_of_ble_eq_true rfl) (by omega) (by decide) (by omega) (by omega) (e_isFine (d := d - 1) smo2 (xb := false) (by omega)) (q_kC (fun h3 hB => ?_)) q_xC
    obtain ⟨t3_0, pp3⟩ := hB
    have smo3 : z_Mo h3 215 1 al cg sv rs y1_ac y1_rj y1_ro ad bf ln lz ip ty he er ea fa cm cn n mn := t3_0
    have p3 := p2.trans (pp3.wide (by omega) (by omega))
    have hb_mo_cg := smo3.bcg
    have hb_mo_lz := smo3.blz
    have hb_mo_ty := smo3.bty
    have hb_mo_he := smo3.bhe
    have hb_mo_cn := smo3.bcn
    have hb_mo_n := smo3.bn
    have hb_mo_mn := smo3.bmn
    change q_W _ _ _ _ _ _ _ _ 35 [.ref (215), .int (xid)] [.int (0)] _
    refine q_if_eq 51 dX11_roundOf_35 (by decide) (fun b35 => ?_) (fun b35 => ?_)
    · refine q_iconst (v := 0) dX11_roundOf_51 rfl ?_
      have hE : x_mo_roundOf al ro n xid = (0, 1, y1_ac, y1_rj, y1_ro) := by simp only [x_mo_roundOf, x1, if_neg b10]
      rw [hE]
      exact q_ireturn dX11_roundOf_52 rfl rfl (by omega) (by omega) ⟨rfl, smo3, p3⟩
    · exact absurd (by decide) b35
  · have b10 := z_b1 b10
    have fb10 : 0 < x_pl n al xid := z_th b10
    refine q_aload_n (by first | assumption | omega | decide | (rw [q_R0e]; omega)) dX11_roundOf_13 rfl ?_
    refine q_aload_n (by first | assumption | omega | decide | (rw [q_R0e]; omega)) dX11_roundOf_14 rfl ?_
    refine q_iload_n dX11_roundOf_15 rfl ?_
    have g4 : x_pl n al xid ≤ n := x_pl_le
    refine q_invV (mc' := 0) (ms' := 0) (d' := d - 1) (as := [.int (xid)]) dX11_roundOf_16 kM_X11_place kL_X11_57 kI_X11_place kS_X11_place rfl (kC_X11.1) smo2.c0 rfl rfl (Nat.le_of_ble_eq_true rfl) (by omega) (by decide) (by omega) (by omega) (e_placeP (d := d - 1) smo2 xid (by omega) (by omega)) (q_kR ?_) q_xR
    change q_W _ _ _ _ _ _ _ _ 19 [.ref (215), .int (xid)] [.int (nI (x_pl n al xid - 1)), .ref (215), .ref (215)] _
    refine q_invV (mc' := 0) (ms' := 0) (d' := d - 1) (as := [.int (nI (x_pl n al xid - 1))]) dX11_roundOf_19 kM_X11_labelOf kL_X11_194 kI_X11_labelOf kS_X11_labelOf rfl (kC_X11.1) smo2.c0 rfl rfl (Nat.le_of_ble_eq_true rfl) (by omega) (by decide) (by omega) (by omega) (e_mo_labelOf (d := d - 1) smo2 (x_pl n al xid - 1) (by omega) (by omega)) (q_kR ?_) q_xR
    change q_W _ _ _ _ _ _ _ _ 22 [.ref (215), .int (xid)] [.int (x_mo_labelOf y1_ac y1_rj (x_pl n al xid - 1)), .ref (215)] _
    refine q_bipush (v := 117) dX11_roundOf_22 rfl ?_
    refine q_icmp_eq 31 dX11_roundOf_24 (by decide) (fun b24 => ?_) (fun b24 => ?_)
    · refine q_iconst (v := 0) dX11_roundOf_31 rfl ?_
      refine q_invV (mc' := 0) (ms' := 0) (d' := d - 1) (as := [.int (0)]) dX11_roundOf_32 kM_X11_isFine kL_X11_181 kI_X11_isFine kS_X11_isFine rfl (kC_X11.1) smo2.c0 rfl rfl (Nat.le_of_ble_eq_true rfl) (by omega) (by decide) (by omega) (by omega) (e_isFine (d := d - 1) smo2 (xb := false) (by omega)) (q_kC (fun h5 hB => ?_)) q_xC
      obtain ⟨t5_0, pp5⟩ := hB
      have smo5 : z_Mo h5 215 1 al cg sv rs y1_ac y1_rj y1_ro ad bf ln lz ip ty he er ea fa cm cn n mn := t5_0
      have p5 := p2.trans (pp5.wide (by omega) (by omega))
      have hb_mo_cg := smo5.bcg
      have hb_mo_lz := smo5.blz
      have hb_mo_ty := smo5.bty
      have hb_mo_he := smo5.bhe
      have hb_mo_cn := smo5.bcn
      have hb_mo_n := smo5.bn
      have hb_mo_mn := smo5.bmn
      change q_W _ _ _ _ _ _ _ _ 35 [.ref (215), .int (xid)] [.int (0)] _
      refine q_if_eq 51 dX11_roundOf_35 (by decide) (fun b35 => ?_) (fun b35 => ?_)
      · refine q_iconst (v := 0) dX11_roundOf_51 rfl ?_
        have hE : x_mo_roundOf al ro n xid = (0, 1, y1_ac, y1_rj, y1_ro) := by simp only [x_mo_roundOf, x1, if_pos b10, if_pos b24]
        rw [hE]
        exact q_ireturn dX11_roundOf_52 rfl rfl (by omega) (by omega) ⟨rfl, smo5, p5⟩
      · exact absurd (by decide) b35
    · refine q_iconst (v := 1) dX11_roundOf_27 rfl ?_
      refine q_goto 32 dX11_roundOf_28 (by decide) ?_
      refine q_invV (mc' := 0) (ms' := 0) (d' := d - 1) (as := [.int (1)]) dX11_roundOf_32 kM_X11_isFine kL_X11_181 kI_X11_isFine kS_X11_isFine rfl (kC_X11.1) smo2.c0 rfl rfl (Nat.le_of_ble_eq_true rfl) (by omega) (by decide) (by omega) (by omega) (e_isFine (d := d - 1) smo2 (xb := true) (by omega)) (q_kC (fun h6 hB => ?_)) q_xC
      obtain ⟨t6_0, pp6⟩ := hB
      have smo6 : z_Mo h6 215 0 al cg sv rs y1_ac y1_rj y1_ro ad bf ln lz ip ty he er ea fa cm cn n mn := t6_0
      have p6 := p2.trans (pp6.wide (by omega) (by omega))
      have hb_mo_cg := smo6.bcg
      have hb_mo_lz := smo6.blz
      have hb_mo_ty := smo6.bty
      have hb_mo_he := smo6.bhe
      have hb_mo_cn := smo6.bcn
      have hb_mo_n := smo6.bn
      have hb_mo_mn := smo6.bmn
      change q_W _ _ _ _ _ _ _ _ 35 [.ref (215), .int (xid)] [.int (1)] _
      refine q_if_eq 51 dX11_roundOf_35 (by decide) (fun b35 => ?_) (fun b35 => ?_)
      · exact absurd b35 (by decide)
      · refine q_aload_n (by first | assumption | omega | decide | (rw [q_R0e]; omega)) dX11_roundOf_38 rfl ?_
        refine q_getf (k := 7) (v := .ref (217)) kC_X11 kL_X11_13 rfl (by decide) dX11_roundOf_39 smo6.c0 rfl ?_
        refine q_aload_n (by first | assumption | omega | decide | (rw [q_R0e]; omega)) dX11_roundOf_42 rfl ?_
        refine q_iload_n dX11_roundOf_43 rfl ?_
        have g7 : x_pl n al xid ≤ n := x_pl_le
        refine q_invV (mc' := 0) (ms' := 0) (d' := d - 1) (as := [.int (xid)]) dX11_roundOf_44 kM_X11_place kL_X11_57 kI_X11_place kS_X11_place rfl (kC_X11.1) smo6.c0 rfl rfl (Nat.le_of_ble_eq_true rfl) (by omega) (by decide) (by omega) (by omega) (e_placeP (d := d - 1) smo6 xid (by omega) (by omega)) (q_kR ?_) q_xR
        change q_W _ _ _ _ _ _ _ _ 47 [.ref (215), .int (xid)] [.int (nI (x_pl n al xid - 1)), .ref (217)] _
        refine q_ialdN (j := x_pl n al xid - 1) (f := y1_ro) dX11_roundOf_47 smo6.c2 (by omega) (by decide) ?_
        change q_W _ _ _ _ _ _ _ _ _ _ [.int (y1_ro (x_pl n al xid - 1))] _
        refine q_goto 52 dX11_roundOf_48 (by decide) ?_
        have hE : x_mo_roundOf al ro n xid = (y1_ro (x_pl n al xid - 1), 0, y1_ac, y1_rj, y1_ro) := by simp only [x_mo_roundOf, x1, if_pos b10, if_neg b24]
        rw [hE]
        exact q_ireturn dX11_roundOf_52 rfl rfl (by omega) (by omega) ⟨rfl, smo6, p6⟩
def x_mo_isAcceptedByGame (al : Nat → Int32) (ro : Nat → Int32) (n : Nat) (xid : Int32) : (Bool) × (Int32) × (Int32) × (Int32) × (Nat → Int32) := (match x_mo_status al ro n xid with | (v1, y1_th, y1_ac, y1_rj, y1_ro) => (if (v1) = (97) then (true, y1_th, y1_ac, y1_rj, y1_ro) else (false, y1_th, y1_ac, y1_rj, y1_ro)))
set_option maxRecDepth 100000 in
set_option maxHeartbeats 8000000 in
theorem e_mo_isAcceptedByGame {g : q_G} {h : q_H} {d : Nat} {th : Int32} {al : Nat → Int32} {cg : Nat} {sv : Bool} {rs : Int32} {ac : Int32} {rj : Int32} {ro : Nat → Int32} {ad : Nat → Int32} {bf : Nat → Int32} {ln : Nat → Int32} {lz : Nat} {ip : Nat → Int32} {ty : Nat} {he : Nat} {er : Int32} {ea : Int32} {fa : Int32} {cm : Nat → Int32} {cn : Nat} {n : Nat} {mn : Nat} (smo : z_Mo h 215 th al cg sv rs ac rj ro ad bf ln lz ip ty he er ea fa cm cn n mn)  (xid : Int32)   (hd : 7 ≤ d) : q_Spec g mX11_isAcceptedByGame d 0 0 [.ref (215), .int (xid)] h (q_chg (.inl (some (.int (z_b (x_mo_isAcceptedByGame al ro n xid).1)))) (fun h1 => z_Mo h1 215 ((x_mo_isAcceptedByGame al ro n xid).2.1) al cg sv rs ((x_mo_isAcceptedByGame al ro n xid).2.2.1) ((x_mo_isAcceptedByGame al ro n xid).2.2.2.1) ((x_mo_isAcceptedByGame al ro n xid).2.2.2.2) ad bf ln lz ip ty he er ea fa cm cn n mn ∧ q_same h h1 215 8)) := by
  have hb_mo_cg := smo.bcg
  have hb_mo_lz := smo.blz
  have hb_mo_ty := smo.bty
  have hb_mo_he := smo.bhe
  have hb_mo_cn := smo.bcn
  have hb_mo_n := smo.bn
  have hb_mo_mn := smo.bmn
  have ho_mo_cg := smo.bcg
  have ho_mo_lz := smo.blz
  have ho_mo_ty := smo.bty
  have ho_mo_he := smo.bhe
  have ho_mo_cn := smo.bcn
  have ho_mo_n := smo.bn
  have ho_mo_mn := smo.bmn
  have p0 : q_same h h 215 8 := q_same.rfl'
  refine q_enter (by decide +kernel) rfl rfl (Nat.le_of_ble_eq_true rfl) (fun hz => ?_)
  change q_W _ _ _ _ _ _ _ _ _ [.ref (215), .int (xid)] [] _
  refine q_aload_n (by first | assumption | omega | decide | (rw [q_R0e]; omega)) dX11_isAcceptedByGame_0 rfl ?_
  refine q_iload_n dX11_isAcceptedByGame_1 rfl ?_
  rcases x1 : x_mo_status al ro n xid with ⟨v1, y1_th, y1_ac, y1_rj, y1_ro⟩
  have e9 := e_mo_status (g := g) (h := h) (d := d - 1) smo xid (by omega)
  rw [x1] at e9
  refine q_invV (mc' := 0) (ms' := 0) (d' := d - 1) (as := [.int (xid)]) dX11_isAcceptedByGame_2 kM_X11_status kL_X11_198 kI_X11_status kS_X11_status rfl (kC_X11.1) smo.c0 rfl rfl (Nat.le_of_ble_eq_true rfl) (by omega) (by decide) (by omega) (by omega) (e9) (q_kC (fun h2 hB => ?_)) q_xC
  obtain ⟨t2_0, pp2⟩ := hB
  have smo2 := t2_0
  have p2 := p0.trans (pp2.wide (by omega) (by omega))
  have hb_mo_cg := smo2.bcg
  have hb_mo_lz := smo2.blz
  have hb_mo_ty := smo2.bty
  have hb_mo_he := smo2.bhe
  have hb_mo_cn := smo2.bcn
  have hb_mo_n := smo2.bn
  have hb_mo_mn := smo2.bmn
  change q_W _ _ _ _ _ _ _ _ 5 [.ref (215), .int (xid)] [.int (v1)] _
  refine q_bipush (v := 97) dX11_isAcceptedByGame_5 rfl ?_
  refine q_icmp_ne 14 dX11_isAcceptedByGame_7 (by decide) (fun b7 => ?_) (fun b7 => ?_)
  · refine q_iconst (v := 0) dX11_isAcceptedByGame_14 rfl ?_
    have hE : x_mo_isAcceptedByGame al ro n xid = (false, y1_th, y1_ac, y1_rj, y1_ro) := by simp only [x_mo_isAcceptedByGame, x1, if_neg b7]
    rw [hE]
    exact q_ireturn dX11_isAcceptedByGame_15 rfl rfl (by omega) (by omega) ⟨rfl, smo2, p2⟩
  · refine q_iconst (v := 1) dX11_isAcceptedByGame_10 rfl ?_
    refine q_goto 15 dX11_isAcceptedByGame_11 (by decide) ?_
    have hE : x_mo_isAcceptedByGame al ro n xid = (true, y1_th, y1_ac, y1_rj, y1_ro) := by simp only [x_mo_isAcceptedByGame, x1, if_pos b7]
    rw [hE]
    exact q_ireturn dX11_isAcceptedByGame_15 rfl rfl (by omega) (by omega) ⟨rfl, smo2, p2⟩
def x_mo_acceptedCount (al : Nat → Int32) (ro : Nat → Int32) (n : Nat) : (Int32) × (Int32) × (Int32) × (Int32) × (Nat → Int32) := (match x_mo_labelsAll al n ro with | (y2_ac, y2_rj, y2_ro) => (x_mo_size y2_ac, 0, y2_ac, y2_rj, y2_ro))
set_option maxRecDepth 100000 in
set_option maxHeartbeats 8000000 in
theorem e_mo_acceptedCount {g : q_G} {h : q_H} {d : Nat} {th : Int32} {al : Nat → Int32} {cg : Nat} {sv : Bool} {rs : Int32} {ac : Int32} {rj : Int32} {ro : Nat → Int32} {ad : Nat → Int32} {bf : Nat → Int32} {ln : Nat → Int32} {lz : Nat} {ip : Nat → Int32} {ty : Nat} {he : Nat} {er : Int32} {ea : Int32} {fa : Int32} {cm : Nat → Int32} {cn : Nat} {n : Nat} {mn : Nat} (smo : z_Mo h 215 th al cg sv rs ac rj ro ad bf ln lz ip ty he er ea fa cm cn n mn)     (hd : 6 ≤ d) : q_Spec g mX11_acceptedCount d 0 0 [.ref (215)] h (q_chg (.inl (some (.int (x_mo_acceptedCount al ro n).1))) (fun h1 => z_Mo h1 215 ((x_mo_acceptedCount al ro n).2.1) al cg sv rs ((x_mo_acceptedCount al ro n).2.2.1) ((x_mo_acceptedCount al ro n).2.2.2.1) ((x_mo_acceptedCount al ro n).2.2.2.2) ad bf ln lz ip ty he er ea fa cm cn n mn ∧ q_same h h1 215 8)) := by
  have hb_mo_cg := smo.bcg
  have hb_mo_lz := smo.blz
  have hb_mo_ty := smo.bty
  have hb_mo_he := smo.bhe
  have hb_mo_cn := smo.bcn
  have hb_mo_n := smo.bn
  have hb_mo_mn := smo.bmn
  have ho_mo_cg := smo.bcg
  have ho_mo_lz := smo.blz
  have ho_mo_ty := smo.bty
  have ho_mo_he := smo.bhe
  have ho_mo_cn := smo.bcn
  have ho_mo_n := smo.bn
  have ho_mo_mn := smo.bmn
  have p0 : q_same h h 215 8 := q_same.rfl'
  refine q_enter (by decide +kernel) rfl rfl (Nat.le_of_ble_eq_true rfl) (fun hz => ?_)
  change q_W _ _ _ _ _ _ _ _ _ [.ref (215)] [] _
  refine q_aload_n (by first | assumption | omega | decide | (rw [q_R0e]; omega)) dX11_acceptedCount_0 rfl ?_
  refine q_iconst (v := 0) dX11_acceptedCount_1 rfl ?_
  refine q_putf (k := 0) kC_X11 kL_X11_40 rfl (by decide) rfl dX11_acceptedCount_2 smo.c0 (Nat.le_of_ble_eq_true rfl) ⟨rfl, rfl⟩ rfl ?_
  refine z_genW (B := fun H => z_Mo H 215 0 al cg sv rs ac rj ro ad bf ln lz ip ty he er ea fa cm cn n mn ∧ q_same h H 215 8) ⟨z_Mo.put0 smo (cg' := cg) (sv' := sv) (lz' := lz) (ty' := ty) (he' := he) (cn' := cn) (hbcg := by first | omega | (split <;> omega)) (hblz := by first | omega | (split <;> omega)) (hbty := by first | omega | (split <;> omega)) (hbhe := by first | omega | (split <;> omega)) (hbcn := by first | omega | (split <;> omega)), p0.trans (q_same.set (by omega) (by omega))⟩ (fun h1 hB => ?_)
  obtain ⟨smo1, p1⟩ := hB
  have hb_mo_cg := smo1.bcg
  have hb_mo_lz := smo1.blz
  have hb_mo_ty := smo1.bty
  have hb_mo_he := smo1.bhe
  have hb_mo_cn := smo1.bcn
  have hb_mo_n := smo1.bn
  have hb_mo_mn := smo1.bmn
  refine q_aload_n (by first | assumption | omega | decide | (rw [q_R0e]; omega)) dX11_acceptedCount_5 rfl ?_
  rcases x2 : x_mo_labelsAll al n ro with ⟨y2_ac, y2_rj, y2_ro⟩
  have e9 := e_mo_labelsAll (g := g) (h := h1) (d := d - 1) smo1 (by omega)
  rw [x2] at e9
  refine q_invV (mc' := 0) (ms' := 0) (d' := d - 1) (as := []) dX11_acceptedCount_6 kM_X11_labelsAll kL_X11_191 kI_X11_labelsAll kS_X11_labelsAll rfl (kC_X11.1) smo1.c0 rfl rfl (Nat.le_of_ble_eq_true rfl) (by omega) (by decide) (by omega) (by omega) (e9) (q_kC (fun h3 hB => ?_)) q_xC
  obtain ⟨t3_0, pp3⟩ := hB
  have smo3 := t3_0
  have p3 := p1.trans (pp3.wide (by omega) (by omega))
  have hb_mo_cg := smo3.bcg
  have hb_mo_lz := smo3.blz
  have hb_mo_ty := smo3.bty
  have hb_mo_he := smo3.bhe
  have hb_mo_cn := smo3.bcn
  have hb_mo_n := smo3.bn
  have hb_mo_mn := smo3.bmn
  change q_W _ _ _ _ _ _ _ _ 9 [.ref (215)] [] _
  refine q_aload_n (by first | assumption | omega | decide | (rw [q_R0e]; omega)) dX11_acceptedCount_9 rfl ?_
  refine q_getf (k := 5) (v := .int (y2_ac)) kC_X11 kL_X11_74 rfl (by decide) dX11_acceptedCount_10 smo3.c0 rfl ?_
  refine q_invS (mc' := 0) (ms' := 0) (d' := d - 1) (as := [.int (y2_ac)]) dX11_acceptedCount_13 kM_X11_size kL_X11_68 kT_X11_size rfl rfl rfl (Nat.le_of_ble_eq_true rfl) (by omega) (by decide) (by omega) (by omega) (e_mo_size (d := d - 1) y2_ac (by omega)) (q_kR ?_) q_xR
  change q_W _ _ _ _ _ _ _ _ 16 [.ref (215)] [.int (x_mo_size y2_ac)] _
  have hE : x_mo_acceptedCount al ro n = (x_mo_size y2_ac, 0, y2_ac, y2_rj, y2_ro) := by simp only [x_mo_acceptedCount, x2]
  rw [hE]
  exact q_ireturn dX11_acceptedCount_16 rfl rfl (by omega) (by omega) ⟨rfl, smo3, p3⟩
def x_mo_undecidedCount (al : Nat → Int32) (ro : Nat → Int32) (n : Nat) : (Int32) × (Int32) × (Int32) × (Int32) × (Nat → Int32) := (match x_mo_labelsAll al n ro with | (y2_ac, y2_rj, y2_ro) => ((nI (n)) - (x_mo_size (y2_ac ||| y2_rj)), 0, y2_ac, y2_rj, y2_ro))
set_option maxRecDepth 100000 in
set_option maxHeartbeats 8000000 in
theorem e_mo_undecidedCount {g : q_G} {h : q_H} {d : Nat} {th : Int32} {al : Nat → Int32} {cg : Nat} {sv : Bool} {rs : Int32} {ac : Int32} {rj : Int32} {ro : Nat → Int32} {ad : Nat → Int32} {bf : Nat → Int32} {ln : Nat → Int32} {lz : Nat} {ip : Nat → Int32} {ty : Nat} {he : Nat} {er : Int32} {ea : Int32} {fa : Int32} {cm : Nat → Int32} {cn : Nat} {n : Nat} {mn : Nat} (smo : z_Mo h 215 th al cg sv rs ac rj ro ad bf ln lz ip ty he er ea fa cm cn n mn)     (hd : 6 ≤ d) : q_Spec g mX11_undecidedCount d 0 0 [.ref (215)] h (q_chg (.inl (some (.int (x_mo_undecidedCount al ro n).1))) (fun h1 => z_Mo h1 215 ((x_mo_undecidedCount al ro n).2.1) al cg sv rs ((x_mo_undecidedCount al ro n).2.2.1) ((x_mo_undecidedCount al ro n).2.2.2.1) ((x_mo_undecidedCount al ro n).2.2.2.2) ad bf ln lz ip ty he er ea fa cm cn n mn ∧ q_same h h1 215 8)) := by
  have hb_mo_cg := smo.bcg
  have hb_mo_lz := smo.blz
  have hb_mo_ty := smo.bty
  have hb_mo_he := smo.bhe
  have hb_mo_cn := smo.bcn
  have hb_mo_n := smo.bn
  have hb_mo_mn := smo.bmn
  have ho_mo_cg := smo.bcg
  have ho_mo_lz := smo.blz
  have ho_mo_ty := smo.bty
  have ho_mo_he := smo.bhe
  have ho_mo_cn := smo.bcn
  have ho_mo_n := smo.bn
  have ho_mo_mn := smo.bmn
  have p0 : q_same h h 215 8 := q_same.rfl'
  refine q_enter (by decide +kernel) rfl rfl (Nat.le_of_ble_eq_true rfl) (fun hz => ?_)
  change q_W _ _ _ _ _ _ _ _ _ [.ref (215)] [] _
  refine q_aload_n (by first | assumption | omega | decide | (rw [q_R0e]; omega)) dX11_undecidedCount_0 rfl ?_
  refine q_iconst (v := 0) dX11_undecidedCount_1 rfl ?_
  refine q_putf (k := 0) kC_X11 kL_X11_40 rfl (by decide) rfl dX11_undecidedCount_2 smo.c0 (Nat.le_of_ble_eq_true rfl) ⟨rfl, rfl⟩ rfl ?_
  refine z_genW (B := fun H => z_Mo H 215 0 al cg sv rs ac rj ro ad bf ln lz ip ty he er ea fa cm cn n mn ∧ q_same h H 215 8) ⟨z_Mo.put0 smo (cg' := cg) (sv' := sv) (lz' := lz) (ty' := ty) (he' := he) (cn' := cn) (hbcg := by first | omega | (split <;> omega)) (hblz := by first | omega | (split <;> omega)) (hbty := by first | omega | (split <;> omega)) (hbhe := by first | omega | (split <;> omega)) (hbcn := by first | omega | (split <;> omega)), p0.trans (q_same.set (by omega) (by omega))⟩ (fun h1 hB => ?_)
  obtain ⟨smo1, p1⟩ := hB
  have hb_mo_cg := smo1.bcg
  have hb_mo_lz := smo1.blz
  have hb_mo_ty := smo1.bty
  have hb_mo_he := smo1.bhe
  have hb_mo_cn := smo1.bcn
  have hb_mo_n := smo1.bn
  have hb_mo_mn := smo1.bmn
  refine q_aload_n (by first | assumption | omega | decide | (rw [q_R0e]; omega)) dX11_undecidedCount_5 rfl ?_
  rcases x2 : x_mo_labelsAll al n ro with ⟨y2_ac, y2_rj, y2_ro⟩
  have e9 := e_mo_labelsAll (g := g) (h := h1) (d := d - 1) smo1 (by omega)
  rw [x2] at e9
  refine q_invV (mc' := 0) (ms' := 0) (d' := d - 1) (as := []) dX11_undecidedCount_6 kM_X11_labelsAll kL_X11_191 kI_X11_labelsAll kS_X11_labelsAll rfl (kC_X11.1) smo1.c0 rfl rfl (Nat.le_of_ble_eq_true rfl) (by omega) (by decide) (by omega) (by omega) (e9) (q_kC (fun h3 hB => ?_)) q_xC
  obtain ⟨t3_0, pp3⟩ := hB
  have smo3 := t3_0
  have p3 := p1.trans (pp3.wide (by omega) (by omega))
  have hb_mo_cg := smo3.bcg
  have hb_mo_lz := smo3.blz
  have hb_mo_ty := smo3.bty
  have hb_mo_he := smo3.bhe
  have hb_mo_cn := smo3.bcn
  have hb_mo_n := smo3.bn
  have hb_mo_mn := smo3.bmn
  change q_W _ _ _ _ _ _ _ _ 9 [.ref (215)] [] _
  refine q_aload_n (by first | assumption | omega | decide | (rw [q_R0e]; omega)) dX11_undecidedCount_9 rfl ?_
  refine q_getf (k := 1) (v := .ref (216)) kC_X11 kL_X11_9 rfl (by decide) dX11_undecidedCount_10 smo3.c0 rfl ?_
  refine q_iconst (v := 0) dX11_undecidedCount_13 rfl ?_
  refine q_ialdN (j := 0) (f := al) dX11_undecidedCount_14 smo3.c1 (by omega) (by decide) ?_
  rw [smo3.en]
  change q_W _ _ _ _ _ _ _ _ _ _ [.int (nI (n))] _
  refine q_aload_n (by first | assumption | omega | decide | (rw [q_R0e]; omega)) dX11_undecidedCount_15 rfl ?_
  refine q_getf (k := 5) (v := .int (y2_ac)) kC_X11 kL_X11_74 rfl (by decide) dX11_undecidedCount_16 smo3.c0 rfl ?_
  refine q_aload_n (by first | assumption | omega | decide | (rw [q_R0e]; omega)) dX11_undecidedCount_19 rfl ?_
  refine q_getf (k := 6) (v := .int (y2_rj)) kC_X11 kL_X11_77 rfl (by decide) dX11_undecidedCount_20 smo3.c0 rfl ?_
  refine q_ior dX11_undecidedCount_23 ?_
  refine q_invS (mc' := 0) (ms' := 0) (d' := d - 1) (as := [.int (y2_ac ||| y2_rj)]) dX11_undecidedCount_24 kM_X11_size kL_X11_68 kT_X11_size rfl rfl rfl (Nat.le_of_ble_eq_true rfl) (by omega) (by decide) (by omega) (by omega) (e_mo_size (d := d - 1) (y2_ac ||| y2_rj) (by omega)) (q_kR ?_) q_xR
  change q_W _ _ _ _ _ _ _ _ 27 [.ref (215)] [.int (x_mo_size (y2_ac ||| y2_rj)), .int (nI (n))] _
  refine q_isub dX11_undecidedCount_27 ?_
  have hE : x_mo_undecidedCount al ro n = ((nI (n)) - (x_mo_size (y2_ac ||| y2_rj)), 0, y2_ac, y2_rj, y2_ro) := by simp only [x_mo_undecidedCount, x2]
  rw [hE]
  exact q_ireturn dX11_undecidedCount_28 rfl rfl (by omega) (by omega) ⟨rfl, smo3, p3⟩
def x_mo_isCredible (al : Nat → Int32) (ad : Nat → Int32) (n : Nat) (xid : Int32) : (Bool) × (Int32) × (Nat → Int32) := (if x_th n al xid then (match x_mo_preferredWith al ad n ((1 : Int32) <<< ((nI (x_pl n al xid - 1)) &&& 31)) with | (v3, y3_ad) => (if (v3) ≤ (0) then (false, (if x_th n al xid then 0 else 1), y3_ad) else (true, (if x_th n al xid then 0 else 1), y3_ad))) else (false, (if x_th n al xid then 0 else 1), ad))
set_option maxRecDepth 100000 in
set_option maxHeartbeats 8000000 in
theorem e_mo_isCredible {g : q_G} {h : q_H} {d : Nat} {th : Int32} {al : Nat → Int32} {cg : Nat} {sv : Bool} {rs : Int32} {ac : Int32} {rj : Int32} {ro : Nat → Int32} {ad : Nat → Int32} {bf : Nat → Int32} {ln : Nat → Int32} {lz : Nat} {ip : Nat → Int32} {ty : Nat} {he : Nat} {er : Int32} {ea : Int32} {fa : Int32} {cm : Nat → Int32} {cn : Nat} {n : Nat} {mn : Nat} (smo : z_Mo h 215 th al cg sv rs ac rj ro ad bf ln lz ip ty he er ea fa cm cn n mn)  (xid : Int32) (had : z_01 ad)  (hd : 9 ≤ d) : q_Spec g mX11_isCredible d 0 0 [.ref (215), .int (xid)] h (q_chg (.inl (some (.int (z_b (x_mo_isCredible al ad n xid).1)))) (fun h1 => z_Mo h1 215 ((x_mo_isCredible al ad n xid).2.1) al cg sv rs ac rj ro ((x_mo_isCredible al ad n xid).2.2) bf ln lz ip ty he er ea fa cm cn n mn ∧ q_same h h1 215 8)) := by
  have hb_mo_cg := smo.bcg
  have hb_mo_lz := smo.blz
  have hb_mo_ty := smo.bty
  have hb_mo_he := smo.bhe
  have hb_mo_cn := smo.bcn
  have hb_mo_n := smo.bn
  have hb_mo_mn := smo.bmn
  have ho_mo_cg := smo.bcg
  have ho_mo_lz := smo.blz
  have ho_mo_ty := smo.bty
  have ho_mo_he := smo.bhe
  have ho_mo_cn := smo.bcn
  have ho_mo_n := smo.bn
  have ho_mo_mn := smo.bmn
  have p0 : q_same h h 215 8 := q_same.rfl'
  refine q_enter (by decide +kernel) rfl rfl (Nat.le_of_ble_eq_true rfl) (fun hz => ?_)
  change q_W _ _ _ _ _ _ _ _ _ [.ref (215), .int (xid)] [] _
  refine q_aload_n (by first | assumption | omega | decide | (rw [q_R0e]; omega)) dX11_isCredible_0 rfl ?_
  refine q_aload_n (by first | assumption | omega | decide | (rw [q_R0e]; omega)) dX11_isCredible_1 rfl ?_
  refine q_iload_n dX11_isCredible_2 rfl ?_
  refine q_invV (mc' := 0) (ms' := 0) (d' := d - 1) (as := [.int (xid)]) dX11_isCredible_3 kM_X11_isThere kL_X11_141 kI_X11_isThere kS_X11_isThere rfl (kC_X11.1) smo.c0 rfl rfl (Nat.le_of_ble_eq_true rfl) (by omega) (by decide) (by omega) (by omega) (e_isThere (d := d - 1) smo xid (by omega)) (q_kR ?_) q_xR
  change q_W _ _ _ _ _ _ _ _ 6 [.ref (215), .int (xid)] [.int (z_b (x_th n al xid)), .ref (215)] _
  refine q_invV (mc' := 0) (ms' := 0) (d' := d - 1) (as := [.int (z_b (x_th n al xid))]) dX11_isCredible_6 kM_X11_isFine kL_X11_181 kI_X11_isFine kS_X11_isFine rfl (kC_X11.1) smo.c0 rfl rfl (Nat.le_of_ble_eq_true rfl) (by omega) (by decide) (by omega) (by omega) (e_isFine (d := d - 1) smo (xb := (x_th n al xid)) (by omega)) (q_kC (fun h1 hB => ?_)) q_xC
  obtain ⟨t1_0, pp1⟩ := hB
  have smo1 : z_Mo h1 215 (if x_th n al xid then 0 else 1) al cg sv rs ac rj ro ad bf ln lz ip ty he er ea fa cm cn n mn := t1_0
  have p1 := p0.trans (pp1.wide (by omega) (by omega))
  have hb_mo_cg := smo1.bcg
  have hb_mo_lz := smo1.blz
  have hb_mo_ty := smo1.bty
  have hb_mo_he := smo1.bhe
  have hb_mo_cn := smo1.bcn
  have hb_mo_n := smo1.bn
  have hb_mo_mn := smo1.bmn
  change q_W _ _ _ _ _ _ _ _ 9 [.ref (215), .int (xid)] [.int (z_b (x_th n al xid))] _
  refine q_if_eq 30 dX11_isCredible_9 (by decide) (fun b9 => ?_) (fun b9 => ?_)
  · have b9 := z_b0n b9
    have fb9 : x_pl n al xid = 0 := z_nth b9
    refine q_iconst (v := 0) dX11_isCredible_30 rfl ?_
    have hE : x_mo_isCredible al ad n xid = (false, (if x_th n al xid then 0 else 1), ad) := by simp only [x_mo_isCredible, if_neg b9]
    rw [hE]
    exact q_ireturn dX11_isCredible_31 rfl rfl (by omega) (by omega) ⟨rfl, smo1, p1⟩
  · have b9 := z_b1 b9
    have fb9 : 0 < x_pl n al xid := z_th b9
    refine q_aload_n (by first | assumption | omega | decide | (rw [q_R0e]; omega)) dX11_isCredible_12 rfl ?_
    refine q_iconst (v := 1) dX11_isCredible_13 rfl ?_
    refine q_aload_n (by first | assumption | omega | decide | (rw [q_R0e]; omega)) dX11_isCredible_14 rfl ?_
    refine q_iload_n dX11_isCredible_15 rfl ?_
    have g2 : x_pl n al xid ≤ n := x_pl_le
    refine q_invV (mc' := 0) (ms' := 0) (d' := d - 1) (as := [.int (xid)]) dX11_isCredible_16 kM_X11_place kL_X11_57 kI_X11_place kS_X11_place rfl (kC_X11.1) smo1.c0 rfl rfl (Nat.le_of_ble_eq_true rfl) (by omega) (by decide) (by omega) (by omega) (e_placeP (d := d - 1) smo1 xid (by omega) (by omega)) (q_kR ?_) q_xR
    change q_W _ _ _ _ _ _ _ _ 19 [.ref (215), .int (xid)] [.int (nI (x_pl n al xid - 1)), .int (1), .ref (215)] _
    refine q_ishl dX11_isCredible_19 ?_
    rcases x3 : x_mo_preferredWith al ad n ((1 : Int32) <<< ((nI (x_pl n al xid - 1)) &&& 31)) with ⟨v3, y3_ad⟩
    have e9 := e_mo_preferredWith (g := g) (h := h1) (d := d - 1) smo1 ((1 : Int32) <<< ((nI (x_pl n al xid - 1)) &&& 31)) (by assumption) (by omega)
    rw [x3] at e9
    refine q_invV (mc' := 0) (ms' := 0) (d' := d - 1) (as := [.int ((1 : Int32) <<< ((nI (x_pl n al xid - 1)) &&& 31))]) dX11_isCredible_20 kM_X11_preferredWith kL_X11_207 kI_X11_preferredWith kS_X11_preferredWith rfl (kC_X11.1) smo1.c0 rfl rfl (Nat.le_of_ble_eq_true rfl) (by omega) (by decide) (by omega) (by omega) (e9) (q_kC (fun h4 hB => ?_)) q_xC
    obtain ⟨t4_0, pp4⟩ := hB
    have smo4 := t4_0
    have p4 := p1.trans (pp4.wide (by omega) (by omega))
    have hb_mo_cg := smo4.bcg
    have hb_mo_lz := smo4.blz
    have hb_mo_ty := smo4.bty
    have hb_mo_he := smo4.bhe
    have hb_mo_cn := smo4.bcn
    have hb_mo_n := smo4.bn
    have hb_mo_mn := smo4.bmn
    change q_W _ _ _ _ _ _ _ _ 23 [.ref (215), .int (xid)] [.int (v3)] _
    refine q_if_le 30 dX11_isCredible_23 (by decide) (fun b23 => ?_) (fun b23 => ?_)
    · refine q_iconst (v := 0) dX11_isCredible_30 rfl ?_
      have hE : x_mo_isCredible al ad n xid = (false, (if x_th n al xid then 0 else 1), y3_ad) := by simp only [x_mo_isCredible, if_pos b9, x3, if_pos b23]
      rw [hE]
      exact q_ireturn dX11_isCredible_31 rfl rfl (by omega) (by omega) ⟨rfl, smo4, p4⟩
    · refine q_iconst (v := 1) dX11_isCredible_26 rfl ?_
      refine q_goto 31 dX11_isCredible_27 (by decide) ?_
      have hE : x_mo_isCredible al ad n xid = (true, (if x_th n al xid then 0 else 1), y3_ad) := by simp only [x_mo_isCredible, if_pos b9, x3, if_neg b23]
      rw [hE]
      exact q_ireturn dX11_isCredible_31 rfl rfl (by omega) (by omega) ⟨rfl, smo4, p4⟩
def x_mo_canStandTogether (al : Nat → Int32) (ad : Nat → Int32) (n : Nat) (xid : Int32) (xo : Int32) : (Bool) × (Int32) × (Nat → Int32) := (if x_ath n al xid xo then (match x_mo_preferredWith al ad n (((1 : Int32) <<< ((nI (x_pl n al xid - 1)) &&& 31)) ||| ((1 : Int32) <<< ((nI (x_pl n al xo - 1)) &&& 31))) with | (v6, y6_ad) => (if (v6) ≤ (0) then (false, (if x_ath n al xid xo then 0 else 1), y6_ad) else (true, (if x_ath n al xid xo then 0 else 1), y6_ad))) else (false, (if x_ath n al xid xo then 0 else 1), ad))
set_option maxRecDepth 100000 in
set_option maxHeartbeats 8000000 in
theorem e_mo_canStandTogether {g : q_G} {h : q_H} {d : Nat} {th : Int32} {al : Nat → Int32} {cg : Nat} {sv : Bool} {rs : Int32} {ac : Int32} {rj : Int32} {ro : Nat → Int32} {ad : Nat → Int32} {bf : Nat → Int32} {ln : Nat → Int32} {lz : Nat} {ip : Nat → Int32} {ty : Nat} {he : Nat} {er : Int32} {ea : Int32} {fa : Int32} {cm : Nat → Int32} {cn : Nat} {n : Nat} {mn : Nat} (smo : z_Mo h 215 th al cg sv rs ac rj ro ad bf ln lz ip ty he er ea fa cm cn n mn)  (xid : Int32) (xo : Int32) (had : z_01 ad)  (hd : 9 ≤ d) : q_Spec g mX11_canStandTogether d 0 0 [.ref (215), .int (xid), .int (xo)] h (q_chg (.inl (some (.int (z_b (x_mo_canStandTogether al ad n xid xo).1)))) (fun h1 => z_Mo h1 215 ((x_mo_canStandTogether al ad n xid xo).2.1) al cg sv rs ac rj ro ((x_mo_canStandTogether al ad n xid xo).2.2) bf ln lz ip ty he er ea fa cm cn n mn ∧ q_same h h1 215 8)) := by
  have hb_mo_cg := smo.bcg
  have hb_mo_lz := smo.blz
  have hb_mo_ty := smo.bty
  have hb_mo_he := smo.bhe
  have hb_mo_cn := smo.bcn
  have hb_mo_n := smo.bn
  have hb_mo_mn := smo.bmn
  have ho_mo_cg := smo.bcg
  have ho_mo_lz := smo.blz
  have ho_mo_ty := smo.bty
  have ho_mo_he := smo.bhe
  have ho_mo_cn := smo.bcn
  have ho_mo_n := smo.bn
  have ho_mo_mn := smo.bmn
  have p0 : q_same h h 215 8 := q_same.rfl'
  refine q_enter (by decide +kernel) rfl rfl (Nat.le_of_ble_eq_true rfl) (fun hz => ?_)
  change q_W _ _ _ _ _ _ _ _ _ [.ref (215), .int (xid), .int (xo)] [] _
  refine q_aload_n (by first | assumption | omega | decide | (rw [q_R0e]; omega)) dX11_canStandTogether_0 rfl ?_
  refine q_iload_n dX11_canStandTogether_1 rfl ?_
  refine q_iload_n dX11_canStandTogether_2 rfl ?_
  refine q_invV (mc' := 0) (ms' := 0) (d' := d - 1) (as := [.int (xid), .int (xo)]) dX11_canStandTogether_3 kM_X11_areThere kL_X11_188 kI_X11_areThere kS_X11_areThere rfl (kC_X11.1) smo.c0 rfl rfl (Nat.le_of_ble_eq_true rfl) (by omega) (by decide) (by omega) (by omega) (e_areThere (d := d - 1) smo xid xo (by omega)) (q_kC (fun h1 hB => ?_)) q_xC
  obtain ⟨t1_0, pp1⟩ := hB
  have smo1 : z_Mo h1 215 (if x_ath n al xid xo then 0 else 1) al cg sv rs ac rj ro ad bf ln lz ip ty he er ea fa cm cn n mn := t1_0
  have p1 := p0.trans (pp1.wide (by omega) (by omega))
  have hb_mo_cg := smo1.bcg
  have hb_mo_lz := smo1.blz
  have hb_mo_ty := smo1.bty
  have hb_mo_he := smo1.bhe
  have hb_mo_cn := smo1.bcn
  have hb_mo_n := smo1.bn
  have hb_mo_mn := smo1.bmn
  change q_W _ _ _ _ _ _ _ _ 6 [.ref (215), .int (xid), .int (xo)] [.int (z_b (x_ath n al xid xo))] _
  refine q_if_eq 35 dX11_canStandTogether_6 (by decide) (fun b6 => ?_) (fun b6 => ?_)
  · have b6 := z_b0n b6
    have fb6 : True := trivial
    refine q_iconst (v := 0) dX11_canStandTogether_35 rfl ?_
    have hE : x_mo_canStandTogether al ad n xid xo = (false, (if x_ath n al xid xo then 0 else 1), ad) := by simp only [x_mo_canStandTogether, if_neg b6]
    rw [hE]
    exact q_ireturn dX11_canStandTogether_36 rfl rfl (by omega) (by omega) ⟨rfl, smo1, p1⟩
  · have b6 := z_b1 b6
    have fb6 : 0 < x_pl n al xid ∧ 0 < x_pl n al xo := z_ath b6
    refine q_aload_n (by first | assumption | omega | decide | (rw [q_R0e]; omega)) dX11_canStandTogether_9 rfl ?_
    refine q_iconst (v := 1) dX11_canStandTogether_10 rfl ?_
    refine q_aload_n (by first | assumption | omega | decide | (rw [q_R0e]; omega)) dX11_canStandTogether_11 rfl ?_
    refine q_iload_n dX11_canStandTogether_12 rfl ?_
    have g2 : 0 < x_pl n al xid := fb6.1
    have g3 : x_pl n al xid ≤ n := x_pl_le
    refine q_invV (mc' := 0) (ms' := 0) (d' := d - 1) (as := [.int (xid)]) dX11_canStandTogether_13 kM_X11_place kL_X11_57 kI_X11_place kS_X11_place rfl (kC_X11.1) smo1.c0 rfl rfl (Nat.le_of_ble_eq_true rfl) (by omega) (by decide) (by omega) (by omega) (e_placeP (d := d - 1) smo1 xid (by omega) (by omega)) (q_kR ?_) q_xR
    change q_W _ _ _ _ _ _ _ _ 16 [.ref (215), .int (xid), .int (xo)] [.int (nI (x_pl n al xid - 1)), .int (1), .ref (215)] _
    refine q_ishl dX11_canStandTogether_16 ?_
    refine q_iconst (v := 1) dX11_canStandTogether_17 rfl ?_
    refine q_aload_n (by first | assumption | omega | decide | (rw [q_R0e]; omega)) dX11_canStandTogether_18 rfl ?_
    refine q_iload_n dX11_canStandTogether_19 rfl ?_
    have g4 : 0 < x_pl n al xo := fb6.2
    have g5 : x_pl n al xo ≤ n := x_pl_le
    refine q_invV (mc' := 0) (ms' := 0) (d' := d - 1) (as := [.int (xo)]) dX11_canStandTogether_20 kM_X11_place kL_X11_57 kI_X11_place kS_X11_place rfl (kC_X11.1) smo1.c0 rfl rfl (Nat.le_of_ble_eq_true rfl) (by omega) (by decide) (by omega) (by omega) (e_placeP (d := d - 1) smo1 xo (by omega) (by omega)) (q_kR ?_) q_xR
    change q_W _ _ _ _ _ _ _ _ 23 [.ref (215), .int (xid), .int (xo)] [.int (nI (x_pl n al xo - 1)), .int (1), .int ((1 : Int32) <<< ((nI (x_pl n al xid - 1)) &&& 31)), .ref (215)] _
    refine q_ishl dX11_canStandTogether_23 ?_
    refine q_ior dX11_canStandTogether_24 ?_
    rcases x6 : x_mo_preferredWith al ad n (((1 : Int32) <<< ((nI (x_pl n al xid - 1)) &&& 31)) ||| ((1 : Int32) <<< ((nI (x_pl n al xo - 1)) &&& 31))) with ⟨v6, y6_ad⟩
    have e9 := e_mo_preferredWith (g := g) (h := h1) (d := d - 1) smo1 (((1 : Int32) <<< ((nI (x_pl n al xid - 1)) &&& 31)) ||| ((1 : Int32) <<< ((nI (x_pl n al xo - 1)) &&& 31))) (by assumption) (by omega)
    rw [x6] at e9
    refine q_invV (mc' := 0) (ms' := 0) (d' := d - 1) (as := [.int (((1 : Int32) <<< ((nI (x_pl n al xid - 1)) &&& 31)) ||| ((1 : Int32) <<< ((nI (x_pl n al xo - 1)) &&& 31)))]) dX11_canStandTogether_25 kM_X11_preferredWith kL_X11_207 kI_X11_preferredWith kS_X11_preferredWith rfl (kC_X11.1) smo1.c0 rfl rfl (Nat.le_of_ble_eq_true rfl) (by omega) (by decide) (by omega) (by omega) (e9) (q_kC (fun h7 hB => ?_)) q_xC
    obtain ⟨t7_0, pp7⟩ := hB
    have smo7 := t7_0
    have p7 := p1.trans (pp7.wide (by omega) (by omega))
    have hb_mo_cg := smo7.bcg
    have hb_mo_lz := smo7.blz
    have hb_mo_ty := smo7.bty
    have hb_mo_he := smo7.bhe
    have hb_mo_cn := smo7.bcn
    have hb_mo_n := smo7.bn
    have hb_mo_mn := smo7.bmn
    change q_W _ _ _ _ _ _ _ _ 28 [.ref (215), .int (xid), .int (xo)] [.int (v6)] _
    refine q_if_le 35 dX11_canStandTogether_28 (by decide) (fun b28 => ?_) (fun b28 => ?_)
    · refine q_iconst (v := 0) dX11_canStandTogether_35 rfl ?_
      have hE : x_mo_canStandTogether al ad n xid xo = (false, (if x_ath n al xid xo then 0 else 1), y6_ad) := by simp only [x_mo_canStandTogether, if_pos b6, x6, if_pos b28]
      rw [hE]
      exact q_ireturn dX11_canStandTogether_36 rfl rfl (by omega) (by omega) ⟨rfl, smo7, p7⟩
    · refine q_iconst (v := 1) dX11_canStandTogether_31 rfl ?_
      refine q_goto 36 dX11_canStandTogether_32 (by decide) ?_
      have hE : x_mo_canStandTogether al ad n xid xo = (true, (if x_ath n al xid xo then 0 else 1), y6_ad) := by simp only [x_mo_canStandTogether, if_pos b6, x6, if_neg b28]
      rw [hE]
      exact q_ireturn dX11_canStandTogether_36 rfl rfl (by omega) (by omega) ⟨rfl, smo7, p7⟩