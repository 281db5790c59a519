def x_mo_hasCycle_22 (al : Nat → Int32) (n : Nat) : Nat → Nat → (Int32) → (Bool) → (Int32) × (Bool)
  | 0, _, c22_1, c22_2 => (c22_1, c22_2)
  | r + 1, k, c22_1, c22_2 => (if ((c22_1 >>> ((nI (k)) &&& 31)) &&& (1 : Int32)) = (0) then x_mo_hasCycle_22 al n r (k + 1) c22_1 c22_2 else (if ((x_mo_attackers al n k) &&& c22_1) = (0) then x_mo_hasCycle_22 al n r (k + 1) (c22_1 &&& (((1 : Int32) <<< ((nI (k)) &&& 31)) ^^^ (-1 : Int32))) true else x_mo_hasCycle_22 al n r (k + 1) c22_1 c22_2))
theorem z_bi_clr {x : Int32} {k j : Nat} (hk : k < 32) (hj : j < 32) : z_bi (x &&& (((1 : Int32) <<< ((nI k) &&& 31)) ^^^ (-1 : Int32))) j = (z_bi x j && !decide (j = k)) := by
  rw [z_bi_and, z_bi_not _ hj, z_bi_shl hk hj]
theorem z_hc22 {al : Nat → Int32} {n : Nat} (hn : n ≤ 8) : ∀ (r k : Nat) (c : Int32) (b : Bool), k + r = n → (∀ j, j < 32 → z_bi (x_mo_hasCycle_22 al n r k c b).1 j = true → z_bi c j = true) ∧ ((x_mo_hasCycle_22 al n r k c b).2 = true → b = true ∨ ∃ j, j < n ∧ z_bi c j = true ∧ z_bi (x_mo_hasCycle_22 al n r k c b).1 j = false) := by
  intro r
  induction r with
  | zero =>
    intro k c b _
    exact ⟨fun j _ h => h, fun h => Or.inl h⟩
  | succ r ih =>
    intro k c b hk
    simp only [x_mo_hasCycle_22]
    split
    · exact ih _ _ _ (by omega)
    · next e =>
      split
      · obtain ⟨i1, i2⟩ := ih (k + 1) (c &&& (((1 : Int32) <<< ((nI k) &&& 31)) ^^^ (-1 : Int32))) true (by omega)
        have hc : z_bi c k = true := by
          cases q : z_bi c k with
          | true => rfl
          | false => exact absurd ((z_bit0 c (by omega)).mpr q) e
        refine ⟨fun j hj h => ?_, fun _ => Or.inr ⟨k, by omega, hc, ?_⟩⟩
        · have := i1 j hj h
          rw [z_bi_clr (by omega) hj, Bool.and_eq_true] at this
          exact this.1
        · cases q : z_bi (x_mo_hasCycle_22 al n r (k + 1) (c &&& (((1 : Int32) <<< ((nI k) &&& 31)) ^^^ (-1 : Int32))) true).1 k with
          | false => rfl
          | true =>
            have := i1 k (by omega) q
            rw [z_bi_clr (by omega) (by omega)] at this
            simp at this
      · exact ih _ _ _ (by omega)
theorem z_hc_more {al : Nat → Int32} {n : Nat} (hn : n ≤ 8) (left : Int32) (h : (x_mo_hasCycle_22 al n n 0 left false).2 = true) : z_cn (x_mo_hasCycle_22 al n n 0 left false).1 n < z_cn left n := by
  obtain ⟨i1, i2⟩ := z_hc22 (al := al) hn n 0 left false (by omega)
  rcases i2 h with q | ⟨j, hj, h1, h2⟩
  · cases q
  · exact z_cn_lt n (fun i hi => i1 i (by omega)) ⟨j, hj, h2, h1⟩
/-- what is left when passes take away what has no attackers; r passes may follow -/
def x_hc_14 (al : Nat → Int32) (n : Nat) : Nat → Int32 → Int32
  | 0, left => left
  | r + 1, left => (match x_mo_hasCycle_22 al n n 0 left false with | (a1_0, a1_1) => (if a1_1 then x_hc_14 al n r a1_0 else a1_0))
set_option maxRecDepth 100000 in
set_option maxHeartbeats 8000000 in
theorem l_mo_hasCycle_22 {g : q_G} {h : q_H} {d mc ms kc ks : Nat} {Q : q_O → q_H → Prop} {th : Int32} {al : Nat → Int32} {cg : Nat} {sv : Bool} {rs : Int32} {ac : Int32} {rj : Int32} {ro : Nat → Int32} {ad : Nat → Int32} {bf : Nat → Int32} {ln : Nat → Int32} {lz : Nat} {ip : Nat → Int32} {ty : Nat} {he : Nat} {er : Int32} {ea : Int32} {fa : Int32} {cm : Nat → Int32} {cn : Nat} {n : Nat} {mn : Nat} (smo : z_Mo h 215 th al cg sv rs ac rj ro ad bf ln lz ip ty he er ea fa cm cn n mn)  (ho_mo_n : n ≤ 8)  (hd : 4 ≤ d) (hkc : kc + 0 ≤ mc) (hks : ks + 0 ≤ ms) : ∀ (r k : Nat) (c22_1 : Int32) (c22_2 : Bool) (hk_22 : k + r = n) (K : ∀ (r22_0 : Int32) (r22_1 : Bool), x_mo_hasCycle_22 al n r k c22_1 c22_2 = (r22_0, r22_1) → q_W g mX11_hasCycle d mc ms Q kc ks 69 [.ref (215), .int (r22_0), .int (z_b (r22_1)), q_u] [] h), q_W g mX11_hasCycle d mc ms Q kc ks 22 [.ref (215), .int (c22_1), .int (z_b (c22_2)), .int (nI (k))] [] h := by
  intro r
  induction r with
  | zero =>
    intro k c22_1 c22_2  hk_22 K
    have hb_mo_cg := smo.bcg
    have hb_mo_lz := smo.blz
    have hb_mo_ty := smo.bty
    have hb_mo_he := smo.bhe
    have hb_mo_cn := smo.bcn
    have hb_mo_n := smo.bn
    have hb_mo_mn := smo.bmn
    refine q_iload_n dX11_hasCycle_22 rfl ?_
    refine q_aload_n (by first | assumption | omega | decide | (rw [q_R0e]; omega)) dX11_hasCycle_23 rfl ?_
    refine q_getf (k := 1) (v := .ref (216)) kC_X11 kL_X11_9 rfl (by decide) dX11_hasCycle_24 smo.c0 rfl ?_
    refine q_iconst (v := 0) dX11_hasCycle_27 rfl ?_
    refine q_ialdN (j := 0) (f := al) dX11_hasCycle_28 smo.c1 (by omega) (by decide) ?_
    rw [smo.en]
    change q_W _ _ _ _ _ _ _ _ _ _ [.int (nI (n)), .int (nI (k))] _
    refine q_icmp_ge 69 dX11_hasCycle_29 (by decide) (fun b29 => ?_) (fun b29 => ?_)
    · have b29 := (nI_leI (a := n) (b := k) (by omega) (by omega)).mp b29
      refine q_forget 3 ?_
      change q_W _ _ _ _ _ _ _ _ _ [.ref (215), .int (c22_1), .int (z_b (c22_2)), q_u] [] _
      exact K c22_1 c22_2 (by simp only [x_mo_hasCycle_22])
    · have b29 : ¬ (n ≤ k) := fun q => b29 ((nI_leI (a := n) (b := k) (by omega) (by omega)).mpr q)
      exact absurd b29 (by omega)
  | succ r ih =>
    intro k c22_1 c22_2  hk_22 K
    have hb_mo_cg := smo.bcg
    have hb_mo_lz := smo.blz
    have hb_mo_ty := smo.bty
    have hb_mo_he := smo.bhe
    have hb_mo_cn := smo.bcn
    have hb_mo_n := smo.bn
    have hb_mo_mn := smo.bmn
    refine q_iload_n dX11_hasCycle_22 rfl ?_
    refine q_aload_n (by first | assumption | omega | decide | (rw [q_R0e]; omega)) dX11_hasCycle_23 rfl ?_
    refine q_getf (k := 1) (v := .ref (216)) kC_X11 kL_X11_9 rfl (by decide) dX11_hasCycle_24 smo.c0 rfl ?_
    refine q_iconst (v := 0) dX11_hasCycle_27 rfl ?_
    refine q_ialdN (j := 0) (f := al) dX11_hasCycle_28 smo.c1 (by omega) (by decide) ?_
    rw [smo.en]
    change q_W _ _ _ _ _ _ _ _ _ _ [.int (nI (n)), .int (nI (k))] _
    refine q_icmp_ge 69 dX11_hasCycle_29 (by decide) (fun b29 => ?_) (fun b29 => ?_)
    · have b29 := (nI_leI (a := n) (b := k) (by omega) (by omega)).mp b29
      exact absurd b29 (by omega)
    · have b29 : ¬ (n ≤ k) := fun q => b29 ((nI_leI (a := n) (b := k) (by omega) (by omega)).mpr q)
      refine q_iload_n dX11_hasCycle_32 rfl ?_
      refine q_iload_n dX11_hasCycle_33 rfl ?_
      refine q_ishr dX11_hasCycle_34 ?_
      refine q_iconst (v := 1) dX11_hasCycle_35 rfl ?_
      refine q_iand dX11_hasCycle_36 ?_
      refine q_if_eq 63 dX11_hasCycle_37 (by decide) (fun b37 => ?_) (fun b37 => ?_)
      · refine q_iinc (x := nI (k)) (v := nI (k + 1)) dX11_hasCycle_63 rfl (nI_add _ 1) rfl ?_
        change q_W _ _ _ _ _ _ _ _ _ [.ref (215), .int (c22_1), .int (z_b (c22_2)), .int (nI (k + 1))] [] _
        refine q_goto 22 dX11_hasCycle_66 (by decide) ?_
        change q_W _ _ _ _ _ _ _ _ _ [.ref (215), .int (c22_1), .int (z_b (c22_2)), .int (nI (k + 1))] [] _
        exact ih (k + 1) c22_1 c22_2 (by omega) (fun r22_0 r22_1 e9 => K r22_0 r22_1 (by simp only [x_mo_hasCycle_22, if_pos b37]; exact e9))
      · refine q_aload_n (by first | assumption | omega | decide | (rw [q_R0e]; omega)) dX11_hasCycle_40 rfl ?_
        refine q_iload_n dX11_hasCycle_41 rfl ?_
        refine q_invV (mc' := 0) (ms' := 0) (d' := d - 1) (as := [.int (nI (k))]) dX11_hasCycle_42 kM_X11_attackers kL_X11_80 kI_X11_attackers kS_X11_attackers rfl (kC_X11.1) smo.c0 rfl rfl (Nat.le_of_ble_eq_true rfl) (by omega) (by decide) (by omega) (by omega) (e_mo_attackers (d := d - 1) smo k (by omega) (by omega)) (q_kR ?_) q_xR
        change q_W _ _ _ _ _ _ _ _ 45 [.ref (215), .int (c22_1), .int (z_b (c22_2)), .int (nI (k))] [.int (x_mo_attackers al n k)] _
        refine q_iload_n dX11_hasCycle_45 rfl ?_
        refine q_iand dX11_hasCycle_46 ?_
        refine q_if_eq 53 dX11_hasCycle_47 (by decide) (fun b47 => ?_) (fun b47 => ?_)
        · refine q_iload_n dX11_hasCycle_53 rfl ?_
          refine q_iconst (v := 1) dX11_hasCycle_54 rfl ?_
          refine q_iload_n dX11_hasCycle_55 rfl ?_
          refine q_ishl dX11_hasCycle_56 ?_
          refine q_iconst (v := -1) dX11_hasCycle_57 rfl ?_
          refine q_ixor dX11_hasCycle_58 ?_
          refine q_iand dX11_hasCycle_59 ?_
          refine q_istore_n dX11_hasCycle_60 (by decide) rfl ?_
          change q_W _ _ _ _ _ _ _ _ _ [.ref (215), .int (c22_1 &&& (((1 : Int32) <<< ((nI (k)) &&& 31)) ^^^ (-1 : Int32))), .int (z_b (c22_2)), .int (nI (k))] [] _
          refine q_iconst (v := 1) dX11_hasCycle_61 rfl ?_
          refine q_istore_n dX11_hasCycle_62 (by decide) rfl ?_
          change q_W _ _ _ _ _ _ _ _ _ [.ref (215), .int (c22_1 &&& (((1 : Int32) <<< ((nI (k)) &&& 31)) ^^^ (-1 : Int32))), .int (1), .int (nI (k))] [] _
          refine q_iinc (x := nI (k)) (v := nI (k + 1)) dX11_hasCycle_63 rfl (nI_add _ 1) rfl ?_
          change q_W _ _ _ _ _ _ _ _ _ [.ref (215), .int (c22_1 &&& (((1 : Int32) <<< ((nI (k)) &&& 31)) ^^^ (-1 : Int32))), .int (1), .int (nI (k + 1))] [] _
          refine q_goto 22 dX11_hasCycle_66 (by decide) ?_
          change q_W _ _ _ _ _ _ _ _ _ [.ref (215), .int (c22_1 &&& (((1 : Int32) <<< ((nI (k)) &&& 31)) ^^^ (-1 : Int32))), .int (1), .int (nI (k + 1))] [] _
          exact ih (k + 1) (c22_1 &&& (((1 : Int32) <<< ((nI (k)) &&& 31)) ^^^ (-1 : Int32))) true (by omega) (fun r22_0 r22_1 e9 => K r22_0 r22_1 (by simp only [x_mo_hasCycle_22, if_neg b37, if_pos b47]; exact e9))
        · refine q_goto 63 dX11_hasCycle_50 (by decide) ?_
          refine q_iinc (x := nI (k)) (v := nI (k + 1)) dX11_hasCycle_63 rfl (nI_add _ 1) rfl ?_
          change q_W _ _ _ _ _ _ _ _ _ [.ref (215), .int (c22_1), .int (z_b (c22_2)), .int (nI (k + 1))] [] _
          refine q_goto 22 dX11_hasCycle_66 (by decide) ?_
          change q_W _ _ _ _ _ _ _ _ _ [.ref (215), .int (c22_1), .int (z_b (c22_2)), .int (nI (k + 1))] [] _
          exact ih (k + 1) c22_1 c22_2 (by omega) (fun r22_0 r22_1 e9 => K r22_0 r22_1 (by simp only [x_mo_hasCycle_22, if_neg b37, if_neg b47]; exact e9))
set_option maxRecDepth 100000 in
set_option maxHeartbeats 8000000 in
theorem l_mo_hc {g : q_G} {h : q_H} {d mc ms kc ks : Nat} {Q : q_O → q_H → Prop} {th : Int32} {al : Nat → Int32} {cg : Nat} {sv : Bool} {rs : Int32} {ac : Int32} {rj : Int32} {ro : Nat → Int32} {ad : Nat → Int32} {bf : Nat → Int32} {ln : Nat → Int32} {lz : Nat} {ip : Nat → Int32} {ty : Nat} {he : Nat} {er : Int32} {ea : Int32} {fa : Int32} {cm : Nat → Int32} {cn : Nat} {n : Nat} {mn : Nat} (smo : z_Mo h 215 th al cg sv rs ac rj ro ad bf ln lz ip ty he er ea fa cm cn n mn) (hd : 4 ≤ d) (hkc : kc ≤ mc) (hks : ks ≤ ms) : ∀ (r : Nat) (left : Int32) (hr : z_cn left n < r) (K : ∀ l1, x_hc_14 al n r left = l1 → q_W g mX11_hasCycle d mc ms Q kc ks 72 [.ref 215, .int l1, q_u, q_u] [] h), q_W g mX11_hasCycle d mc ms Q kc ks 18 [.ref 215, .int left, q_u, q_u] [] h := by
  intro r
  induction r with
  | zero =>
    intro left hr
    exact absurd hr (Nat.not_lt_zero _)
  | succ r ih =>
    intro left hr K
    have hb_mo_cg := smo.bcg
    have hb_mo_lz := smo.blz
    have hb_mo_ty := smo.bty
    have hb_mo_he := smo.bhe
    have hb_mo_cn := smo.bcn
    have hb_mo_n := smo.bn
    have hb_mo_mn := smo.bmn
    have ho_mo_n := smo.bn
    refine q_iconst (v := 0) dX11_hasCycle_18 rfl ?_
    refine q_istore_n dX11_hasCycle_19 (by decide) rfl ?_
    change q_W _ _ _ _ _ _ _ _ _ [.ref (215), .int (left), .int (0), q_u] [] _
    refine q_iconst (v := 0) dX11_hasCycle_20 rfl ?_
    refine q_istore_n dX11_hasCycle_21 (by decide) rfl ?_
    change q_W _ _ _ _ _ _ _ _ _ [.ref (215), .int (left), .int (0), .int (0)] [] _
    change q_W _ _ _ _ _ _ _ _ _ [.ref (215), .int (left), .int (0), .int (0)] [] _
    refine l_mo_hasCycle_22 smo ho_mo_n (by omega) (by omega) (by omega) n 0 left false (by omega) (fun a1_0 a1_1 x1 => ?_)
    change q_W _ _ _ _ _ _ _ _ 69 [.ref (215), .int (a1_0), .int (z_b (a1_1)), q_u] [] _
    refine q_goto 14 dX11_hasCycle_69 (by decide) ?_
    have hm9 := z_hc_more (al := al) (n := n) smo.bn left
    rw [x1] at hm9
    dsimp only at hm9
    refine q_iload_n dX11_hasCycle_14 rfl ?_
    refine q_if_eq 72 dX11_hasCycle_15 (by decide) (fun b15 => ?_) (fun b15 => ?_)
    · have b15 := z_b0n b15
      refine q_forget 2 ?_
      change q_W _ _ _ _ _ _ _ _ 72 [.ref 215, .int a1_0, q_u, q_u] [] _
      exact K a1_0 (by simp only [x_hc_14, x1, if_neg b15])
    · have b15 := z_b1 b15
      refine q_forget 2 ?_
      change q_W _ _ _ _ _ _ _ _ 18 [.ref 215, .int a1_0, q_u, q_u] [] _
      exact ih a1_0 (Nat.lt_of_lt_of_le (hm9 b15) (Nat.le_of_lt_succ hr)) (fun l1 e9 => K l1 (by simp only [x_hc_14, x1, if_pos b15]; exact e9))
def x_mo_hasCycle (al : Nat → Int32) (n : Nat) : (Bool) × (Int32) := (let a3_0 := x_hc_14 al n (n + 1) (nI (2 ^ n - 1)); (if (a3_0) = (0) then (false, 0) else (true, 0)))
set_option maxRecDepth 100000 in
set_option maxHeartbeats 8000000 in
theorem e_mo_hasCycle {g : q_G} {h : q_H} {d : Nat} {th : Int32} {al : Nat → Int32} {cg : Nat} {sv : Bool} {rs : Int32} {ac : Int32} {rj : Int32} {ro : Nat → Int32} {ad : Nat → Int32} {bf : Nat → Int32} {ln : Nat → Int32} {lz : Nat} {ip : Nat → Int32} {ty : Nat} {he : Nat} {er : Int32} {ea : Int32} {fa : Int32} {cm : Nat → Int32} {cn : Nat} {n : Nat} {mn : Nat} (smo : z_Mo h 215 th al cg sv rs ac rj ro ad bf ln lz ip ty he er ea fa cm cn n mn)     (hd : 4 ≤ d) : q_Spec g mX11_hasCycle d 0 0 [.ref (215)] h (q_chg (.inl (some (.int (z_b (x_mo_hasCycle al n).1)))) (fun h1 => z_Mo h1 215 ((x_mo_hasCycle al n).2) al cg sv rs ac rj ro ad bf ln lz ip ty he er ea fa cm cn n mn ∧ q_same h h1 215 8)) := by
  have hb_mo_cg := smo.bcg
  have hb_mo_lz := smo.blz
  have hb_mo_ty := smo.bty
  have hb_mo_he := smo.bhe
  have hb_mo_cn := smo.bcn
  have hb_mo_n := smo.bn
  have hb_mo_mn := smo.bmn
  have ho_mo_cg := smo.bcg
  have ho_mo_lz := smo.blz
  have ho_mo_ty := smo.bty
  have ho_mo_he := smo.bhe
  have ho_mo_cn := smo.bcn
  have ho_mo_n := smo.bn
  have ho_mo_mn := smo.bmn
  have p0 : q_same h h 215 8 := q_same.rfl'
  refine q_enter (by decide +kernel) rfl rfl (Nat.le_of_ble_eq_true rfl) (fun hz => ?_)
  change q_W _ _ _ _ _ _ _ _ _ [.ref (215), q_u, q_u, q_u] [] _
  refine q_aload_n (by first | assumption | omega | decide | (rw [q_R0e]; omega)) dX11_hasCycle_0 rfl ?_
  refine q_iconst (v := 0) dX11_hasCycle_1 rfl ?_
  refine q_putf (k := 0) kC_X11 kL_X11_40 rfl (by decide) rfl dX11_hasCycle_2 smo.c0 (Nat.le_of_ble_eq_true rfl) ⟨rfl, rfl⟩ rfl ?_
  refine z_genW (B := fun H => z_Mo H 215 0 al cg sv rs ac rj ro ad bf ln lz ip ty he er ea fa cm cn n mn ∧ q_same h H 215 8) ⟨z_Mo.put0 smo (cg' := cg) (sv' := sv) (lz' := lz) (ty' := ty) (he' := he) (cn' := cn) (hbcg := by first | omega | (split <;> omega)) (hblz := by first | omega | (split <;> omega)) (hbty := by first | omega | (split <;> omega)) (hbhe := by first | omega | (split <;> omega)) (hbcn := by first | omega | (split <;> omega)), p0.trans (q_same.set (by omega) (by omega))⟩ (fun h1 hB => ?_)
  obtain ⟨smo1, p1⟩ := hB
  have hb_mo_cg := smo1.bcg
  have hb_mo_lz := smo1.blz
  have hb_mo_ty := smo1.bty
  have hb_mo_he := smo1.bhe
  have hb_mo_cn := smo1.bcn
  have hb_mo_n := smo1.bn
  have hb_mo_mn := smo1.bmn
  refine q_aload_n (by first | assumption | omega | decide | (rw [q_R0e]; omega)) dX11_hasCycle_5 rfl ?_
  refine q_invV (mc' := 0) (ms' := 0) (d' := d - 1) (as := []) dX11_hasCycle_6 kM_X11_sets kL_X11_96 kI_X11_sets kS_X11_sets rfl (kC_X11.1) smo1.c0 rfl rfl (Nat.le_of_ble_eq_true rfl) (by omega) (by decide) (by omega) (by omega) (e_mo_sets (d := d - 1) smo1 (by omega)) (q_kR ?_) q_xR
  have g2_2 : 2 ^ n ≤ 2 ^ 8 := z_pow8 smo1.bn
  have g2_2p : 1 ≤ 2 ^ n := Nat.one_le_two_pow
  change q_W _ _ _ _ _ _ _ _ 9 [.ref (215), q_u, q_u, q_u] [.int (nI (2 ^ n))] _
  refine q_iconst (v := 1) dX11_hasCycle_9 rfl ?_
  refine q_isubN (a := 2 ^ n) (b := 1) (by omega) dX11_hasCycle_10 ?_
  refine q_istore_n dX11_hasCycle_11 (by decide) rfl ?_
  change q_W _ _ _ _ _ _ _ _ _ [.ref (215), .int (nI (2 ^ n - 1)), q_u, q_u] [] _
  refine q_iconst (v := 1) dX11_hasCycle_12 rfl ?_
  refine q_istore_n dX11_hasCycle_13 (by decide) rfl ?_
  change q_W _ _ _ _ _ _ _ _ _ [.ref (215), .int (nI (2 ^ n - 1)), .int (1), q_u] [] _
  refine q_iload_n dX11_hasCycle_14 rfl ?_
  refine q_if_eq 72 dX11_hasCycle_15 (by decide) (fun b15 => ?_) (fun b15 => ?_)
  · exact absurd b15 (by decide)
  · refine q_forget 2 ?_
    change q_W _ _ _ _ _ _ _ _ 18 [.ref 215, .int (nI (2 ^ n - 1)), q_u, q_u] [] _
    refine l_mo_hc smo1 (by omega) (by omega) (by omega) (n + 1) (nI (2 ^ n - 1)) (Nat.lt_succ_of_le (z_cn_le _ _)) (fun a3_0 x3 => ?_)
    change q_W _ _ _ _ _ _ _ _ 72 [.ref (215), .int (a3_0), q_u, q_u] [] _
    refine q_iload_n dX11_hasCycle_72 rfl ?_
    refine q_if_eq 80 dX11_hasCycle_73 (by decide) (fun b73 => ?_) (fun b73 => ?_)
    · refine q_iconst (v := 0) dX11_hasCycle_80 rfl ?_
      have hE : x_mo_hasCycle al n = (false, 0) := by simp only [x_mo_hasCycle, x3, if_pos b73]
      rw [hE]
      exact q_ireturn dX11_hasCycle_81 rfl rfl (by omega) (by omega) ⟨rfl, smo1, p1⟩
    · refine q_iconst (v := 1) dX11_hasCycle_76 rfl ?_
      refine q_goto 81 dX11_hasCycle_77 (by decide) ?_
      have hE : x_mo_hasCycle al n = (true, 0) := by simp only [x_mo_hasCycle, x3, if_neg b73]
      rw [hE]
      exact q_ireturn dX11_hasCycle_81 rfl rfl (by omega) (by omega) ⟨rfl, smo1, p1⟩
def x_mo_hasCycleBySearch (al : Nat → Int32) (n : Nat) : (Bool) × (Int32) := (match x_mo_hasCycle al n with | (v1, y1_th) => (v1, y1_th))
set_option maxRecDepth 100000 in
set_option maxHeartbeats 8000000 in
theorem e_mo_hasCycleBySearch {g : q_G} {h : q_H} {d : Nat} {th : Int32} {al : Nat → Int32} {cg : Nat} {sv : Bool} {rs : Int32} {ac : Int32} {rj : Int32} {ro : Nat → Int32} {ad : Nat → Int32} {bf : Nat → Int32} {ln : Nat → Int32} {lz : Nat} {ip : Nat → Int32} {ty : Nat} {he : Nat} {er : Int32} {ea : Int32} {fa : Int32} {cm : Nat → Int32} {cn : Nat} {n : Nat} {mn : Nat} (smo : z_Mo h 215 th al cg sv rs ac rj ro ad bf ln lz ip ty he er ea fa cm cn n mn)     (hd : 5 ≤ d) : q_Spec g mX11_hasCycleBySearch d 0 0 [.ref (215)] h (q_chg (.inl (some (.int (z_b (x_mo_hasCycleBySearch al n).1)))) (fun h1 => z_Mo h1 215 ((x_mo_hasCycleBySearch al n).2) al cg sv rs ac rj ro ad bf ln lz ip ty he er ea fa cm cn n mn ∧ q_same h h1 215 8)) := by
  have hb_mo_cg := smo.bcg
  have hb_mo_lz := smo.blz
  have hb_mo_ty := smo.bty
  have hb_mo_he := smo.bhe
  have hb_mo_cn := smo.bcn
  have hb_mo_n := smo.bn
  have hb_mo_mn := smo.bmn
  have ho_mo_cg := smo.bcg
  have ho_mo_lz := smo.blz
  have ho_mo_ty := smo.bty
  have ho_mo_he := smo.bhe
  have ho_mo_cn := smo.bcn
  have ho_mo_n := smo.bn
  have ho_mo_mn := smo.bmn
  have p0 : q_same h h 215 8 := q_same.rfl'
  refine q_enter (by decide +kernel) rfl rfl (Nat.le_of_ble_eq_true rfl) (fun hz => ?_)
  change q_W _ _ _ _ _ _ _ _ _ [.ref (215)] [] _
  refine q_aload_n (by first | assumption | omega | decide | (rw [q_R0e]; omega)) dX11_hasCycleBySearch_0 rfl ?_
  rcases x1 : x_mo_hasCycle al n with ⟨v1, y1_th⟩
  have e9 := e_mo_hasCycle (g := g) (h := h) (d := d - 1) smo (by omega)
  rw [x1] at e9
  refine q_invV (mc' := 0) (ms' := 0) (d' := d - 1) (as := []) dX11_hasCycleBySearch_1 kM_X11_hasCycle kL_X11_210 kI_X11_hasCycle kS_X11_hasCycle rfl (kC_X11.1) smo.c0 rfl rfl (Nat.le_of_ble_eq_true rfl) (by omega) (by decide) (by omega) (by omega) (e9) (q_kC (fun h2 hB => ?_)) q_xC
  obtain ⟨t2_0, pp2⟩ := hB
  have smo2 := t2_0
  have p2 := p0.trans (pp2.wide (by omega) (by omega))
  have hb_mo_cg := smo2.bcg
  have hb_mo_lz := smo2.blz
  have hb_mo_ty := smo2.bty
  have hb_mo_he := smo2.bhe
  have hb_mo_cn := smo2.bcn
  have hb_mo_n := smo2.bn
  have hb_mo_mn := smo2.bmn
  change q_W _ _ _ _ _ _ _ _ 4 [.ref (215)] [.int (z_b (v1))] _
  have hE : x_mo_hasCycleBySearch al n = (v1, y1_th) := by simp only [x_mo_hasCycleBySearch, x1]
  rw [hE]
  exact q_ireturn dX11_hasCycleBySearch_4 rfl (z_b_nar _) (by omega) (by omega) ⟨rfl, smo2, p2⟩