theorem z_genW {g : q_G} {M : q_M} {d mc ms : Nat} {Q : q_O → q_H → Prop} {kc ks pc : Nat} {ls st : List Value} {H : q_H} {B : q_H → Prop} (b : B H) (k : ∀ h1, B h1 → q_W g M d mc ms Q kc ks pc ls st h1) : q_W g M d mc ms Q kc ks pc ls st H := k H b
theorem z_b_nar (b : Bool) : narrow .boolean (.int (z_b b)) = .int (z_b b) := by cases b <;> rfl
theorem z_b0 {b : Bool} (h : z_b b = 0) : b = false := by cases b <;> simp_all [z_b]
theorem z_b1 {b : Bool} (h : ¬ z_b b = 0) : b = true := by cases b <;> simp_all [z_b]
theorem z_par (k : Nat) (hk : k < 2 ^ 31) : nI k - nI k / 2 * 2 = nI (k % 2) := pk_rem hk (by decide) (by decide)
theorem z_par0 {k : Nat} (h : ¬ nI (k % 2) = 0) : (k % 2 == 0) = false := by
  have h2 : k % 2 < 2 := Nat.mod_lt _ (by decide)
  have h3 : ¬ k % 2 = 0 := fun e => h (by rw [e]; rfl)
  simpa using h3
theorem z_par1 {k : Nat} (h : nI (k % 2) = 0) : (k % 2 == 0) = true := by
  have h2 : k % 2 < 2 := Nat.mod_lt _ (by decide)
  by_cases e : k % 2 = 0
  · simp [e]
  · have e1 : k % 2 = 1 := by omega
    rw [e1] at h
    exact absurd h (by decide)
/-- whether the id was moved at an even place from k on -/
def z_pm (mv : Nat → Int32) (id : Int32) : Nat → Nat → Bool
  | 0, _ => false
  | r + 1, k => if k % 2 == 0 && mv k == id then true else z_pm mv id r (k + 1)
def z_mv (mv : Nat → Int32) (id : Int32) : Nat → Nat → Bool
  | 0, _ => false
  | r + 1, k => if mv k == id then true else z_mv mv id r (k + 1)
theorem z_Dl.c {h : q_H} {b mn : Nat} {mv : Nat → Int32} {en wo br : Int32} (s : z_Dl h b mn mv en wo br) : h.2 b = some (.inr (4, [.ref (b + 1), .int (nI mn), .int en, .int wo, .int br])) := s.2.2.2.1
theorem z_Dl.set {h : q_H} {b mn mn' : Nat} {mv : Nat → Int32} {en wo br en' wo' br' : Int32} (s : z_Dl h b mn mv en wo br) (hm : mn' ≤ 12) : z_Dl (q_set h b (.inr (4, [.ref (b + 1), .int (nI mn'), .int en', .int wo', .int br']))) b mn' mv en' wo' br' :=
  ⟨s.1, s.2.1, hm, q_set_eq, (q_set_ne (by omega)).trans s.2.2.2.2⟩
theorem z_Dl.arr {h : q_H} {b mn : Nat} {mv mv' : Nat → Int32} {en wo br : Int32} (s : z_Dl h b mn mv en wo br) : z_Dl (q_set h (b + 1) (.inl (0, 12, .inl mv'))) b mn mv' en wo br :=
  ⟨s.1, s.2.1, s.2.2.1, (q_set_ne (by omega)).trans s.2.2.2.1, q_set_eq⟩
theorem nI_pos1 {k : Nat} (h0 : 0 < k) (h : k < 2 ^ 31) : ¬ nI k ≤ 0 := nI_nle h0 h
theorem nI_z {k : Nat} (h : k < 2 ^ 31) (e : nI k = 0) : k = 0 := (nI_eq h (by decide)).mp e
theorem nI_nz {k : Nat} (e : ¬ nI k = 0) : k ≠ 0 := fun q => e (by rw [q]; rfl)
theorem nI_le0 {k : Nat} (h : k < 2 ^ 31) (e : nI k ≤ 0) : k = 0 := by
  have := (nI_leI (b := 0) h (by decide)).mp e
  omega
theorem nI_nle0 {k : Nat} (e : ¬ nI k ≤ 0) : k ≠ 0 := fun q => e (by rw [q]; decide)

set_option maxRecDepth 100000 in
set_option maxHeartbeats 4000000 in
theorem e_isProponents {g : q_G} {h : q_H} {d k : Nat} (hk : k < 2 ^ 31) : q_Spec g mX2_isProponents d 0 0 [.int (nI k)] h (q_ret (some (.int (z_b (k % 2 == 0)))) h) := by
  refine q_enter (by decide +kernel) rfl rfl (Nat.le_of_ble_eq_true rfl) (fun hz => ?_)
  change q_W _ _ _ _ _ _ _ _ _ [.int (nI k)] [] _
  refine q_iload_n dX2_isProponents_0 rfl ?_
  refine q_iconst (v := 2) dX2_isProponents_1 rfl ?_
  refine q_irem dX2_isProponents_2 (by decide) ?_
  rw [z_par k hk]
  refine q_if_ne 10 dX2_isProponents_3 (by decide) (fun b3 => ?_) (fun b3 => ?_)
  · refine q_iconst (v := 0) dX2_isProponents_10 rfl ?_
    exact q_ireturn dX2_isProponents_11 rfl rfl (by omega) (by omega) (⟨by rw [z_par0 b3]; rfl, rfl⟩)
  · refine q_iconst (v := 1) dX2_isProponents_6 rfl ?_
    refine q_goto 11 dX2_isProponents_7 (by decide) ?_
    exact q_ireturn dX2_isProponents_11 rfl rfl (by omega) (by omega) (⟨by rw [z_par1 b3]; rfl, rfl⟩)

set_option maxRecDepth 100000 in
set_option maxHeartbeats 4000000 in
theorem e_isHeld {g : q_G} {h : q_H} {b mn d : Nat} {mv : Nat → Int32} {en wo br : Int32} (s : z_Dl h b mn mv en wo br)  : q_Spec g mX2_isHeld d 0 0 [.ref b] h (q_ret (some (.int (z_b (decide (mn ≠ 0))))) h) := by
  have sS := s
  obtain ⟨s0, s1, s2, c0, c1⟩ := sS
  refine q_enter (by decide +kernel) rfl rfl (Nat.le_of_ble_eq_true rfl) (fun hz => ?_)
  change q_W _ _ _ _ _ _ _ _ _ [.ref (b)] [] _
  refine q_aload_n (by first | assumption | omega | decide) dX2_isHeld_0 rfl ?_
  refine q_getf (k := 1) kC_X2 kL_X2_15 rfl (by decide) dX2_isHeld_1 c0 rfl ?_
  refine q_if_le 11 dX2_isHeld_4 (by decide) (fun b4 => ?_) (fun b4 => ?_)
  · refine q_iconst (v := 0) dX2_isHeld_11 rfl ?_
    exact q_ireturn dX2_isHeld_12 rfl rfl (by omega) (by omega) (⟨by rw [show decide (mn ≠ 0) = false from by simpa using nI_le0 (by omega) b4]; rfl, rfl⟩)
  · refine q_iconst (v := 1) dX2_isHeld_7 rfl ?_
    refine q_goto 12 dX2_isHeld_8 (by decide) ?_
    exact q_ireturn dX2_isHeld_12 rfl rfl (by omega) (by omega) (⟨by rw [show decide (mn ≠ 0) = true from by simpa using nI_nle0 b4]; rfl, rfl⟩)

set_option maxRecDepth 100000 in
set_option maxHeartbeats 4000000 in
theorem e_isFull {g : q_G} {h : q_H} {b mn d : Nat} {mv : Nat → Int32} {en wo br : Int32} (s : z_Dl h b mn mv en wo br)  : q_Spec g mX2_isFull d 0 0 [.ref b] h (q_ret (some (.int (z_b (decide (mn = 12))))) h) := by
  have sS := s
  obtain ⟨s0, s1, s2, c0, c1⟩ := sS
  refine q_enter (by decide +kernel) rfl rfl (Nat.le_of_ble_eq_true rfl) (fun hz => ?_)
  change q_W _ _ _ _ _ _ _ _ _ [.ref (b)] [] _
  refine q_aload_n (by first | assumption | omega | decide) dX2_isFull_0 rfl ?_
  refine q_getf (k := 1) kC_X2 kL_X2_15 rfl (by decide) dX2_isFull_1 c0 rfl ?_
  refine q_bipush (v := 12) dX2_isFull_4 rfl ?_
  refine q_icmp_lt 13 dX2_isFull_6 (by decide) (fun b6 => ?_) (fun b6 => ?_)
  · refine q_iconst (v := 0) dX2_isFull_13 rfl ?_
    exact q_ireturn dX2_isFull_14 rfl rfl (by omega) (by omega) (⟨by rw [show decide (mn = 12) = false from by have := (nI_ltI (b := 12) (by omega) (by decide)).mp b6; simp; omega]; rfl, rfl⟩)
  · refine q_iconst (v := 1) dX2_isFull_9 rfl ?_
    refine q_goto 14 dX2_isFull_10 (by decide) ?_
    exact q_ireturn dX2_isFull_14 rfl rfl (by omega) (by omega) (⟨by rw [show decide (mn = 12) = true from by have := fun q => b6 ((nI_ltI (b := 12) (by omega) (by decide)).mpr q); simp; omega]; rfl, rfl⟩)

set_option maxRecDepth 100000 in
set_option maxHeartbeats 4000000 in
theorem e_mustBeHeld {g : q_G} {h : q_H} {b mn d : Nat} {mv : Nat → Int32} {en wo br : Int32} (s : z_Dl h b mn mv en wo br) (hd : 7 ≤ d) : q_Spec g mX2_mustBeHeld d 1 6 [.ref b] h (if mn = 0 then q_thr "java/util/NoSuchElementException" (q_skip h) else q_ret none h) := by
  have sS := s
  obtain ⟨s0, s1, s2, c0, c1⟩ := sS
  refine q_enter (by decide +kernel) rfl rfl (Nat.le_of_ble_eq_true rfl) (fun hz => ?_)
  change q_W _ _ _ _ _ _ _ _ _ [.ref (b)] [] _
  refine q_aload_n (by first | assumption | omega | decide) dX2_mustBeHeld_0 rfl ?_
  refine q_getf (k := 1) kC_X2 kL_X2_15 rfl (by decide) dX2_mustBeHeld_1 c0 rfl ?_
  refine q_if_ne 17 dX2_mustBeHeld_4 (by decide) (fun b4 => ?_) (fun b4 => ?_)
  · rw [if_neg (nI_nz b4)]
    exact q_return dX2_mustBeHeld_17 rfl (by omega) (by omega) (⟨rfl, rfl⟩)
  · rw [if_pos (nI_z (by omega) b4)]
    refine q_throw kE_X2_38 kR_X2_36 rfl dX2_mustBeHeld_7 dX2_mustBeHeld_10 dX2_mustBeHeld_11 dX2_mustBeHeld_13 dX2_mustBeHeld_16 (by decide) (by omega) (by omega) (by omega) ?_
    exact q_xout rfl (⟨rfl, rfl⟩) (by omega) (by omega)

set_option maxRecDepth 100000 in
set_option maxHeartbeats 4000000 in
theorem e_last {g : q_G} {h : q_H} {b mn d : Nat} {mv : Nat → Int32} {en wo br : Int32} (s : z_Dl h b mn mv en wo br) (hm : mn ≠ 0) : q_Spec g mX2_last d 0 0 [.ref b] h (q_ret (some (.int (mv (mn - 1)))) h) := by
  have sS := s
  obtain ⟨s0, s1, s2, c0, c1⟩ := sS
  refine q_enter (by decide +kernel) rfl rfl (Nat.le_of_ble_eq_true rfl) (fun hz => ?_)
  change q_W _ _ _ _ _ _ _ _ _ [.ref (b)] [] _
  refine q_aload_n (by first | assumption | omega | decide) dX2_last_0 rfl ?_
  refine q_getf (k := 1) kC_X2 kL_X2_15 rfl (by decide) dX2_last_1 c0 rfl ?_
  refine q_if_le 21 dX2_last_4 (by decide) (fun b4 => ?_) (fun b4 => ?_)
  · exact absurd (nI_le0 (by omega) b4) (by omega)
  · refine q_aload_n (by first | assumption | omega | decide) dX2_last_7 rfl ?_
    refine q_getf (k := 0) kC_X2 kL_X2_9 rfl (by decide) dX2_last_8 c0 rfl ?_
    refine q_aload_n (by first | assumption | omega | decide) dX2_last_11 rfl ?_
    refine q_getf (k := 1) kC_X2 kL_X2_15 rfl (by decide) dX2_last_12 c0 rfl ?_
    refine q_iconst (v := 1) dX2_last_15 rfl ?_
    refine q_isub dX2_last_16 ?_
    rw [show nI (mn) - 1 = nI (mn - 1) from pk_sub (by omega)]
    refine q_ialdN (j := mn - 1) dX2_last_17 c1 (by omega) (by decide) ?_
    refine q_goto 22 dX2_last_18 (by decide) ?_
    exact q_ireturn dX2_last_22 rfl rfl (by omega) (by omega) (⟨rfl, rfl⟩)

set_option maxRecDepth 100000 in
set_option maxHeartbeats 4000000 in
theorem e_isMovedByProponent {g : q_G} {h : q_H} {b mn d : Nat} {mv : Nat → Int32} {en wo br : Int32} (s : z_Dl h b mn mv en wo br) (hd : 1 ≤ d) (xid : Int32) : q_Spec g mX2_isMovedByProponent d 0 0 [.ref b, .int xid] h (q_ret (some (.int (z_b (z_pm mv xid mn 0)))) h) := by
  have sS := s
  obtain ⟨s0, s1, s2, c0, c1⟩ := sS
  have loop : ∀ (r k : Nat), k + r = mn → q_W g mX2_isMovedByProponent d 0 0 (q_ret (some (.int (z_b (z_pm mv xid r k)))) h) 0 0 2 [.ref b, .int xid, .int (nI k)] [] h := by
    intro r
    induction r with
    | zero =>
      intro k hk
      refine q_iload_n dX2_isMovedByProponent_2 rfl ?_
      refine q_aload_n (by first | assumption | omega | decide) dX2_isMovedByProponent_3 rfl ?_
      refine q_getf (k := 1) kC_X2 kL_X2_15 rfl (by decide) dX2_isMovedByProponent_4 c0 rfl ?_
      refine q_icmp_ge 35 dX2_isMovedByProponent_7 (by decide) (fun b7 => ?_) (fun b7 => ?_)
      · refine q_iconst (v := 0) dX2_isMovedByProponent_35 rfl ?_
        exact q_ireturn dX2_isMovedByProponent_36 rfl rfl (by omega) (by omega) (⟨rfl, rfl⟩)
      · exact absurd (nI_le (by omega) (by omega)) b7
    | succ r ih =>
      intro k hk
      refine q_iload_n dX2_isMovedByProponent_2 rfl ?_
      refine q_aload_n (by first | assumption | omega | decide) dX2_isMovedByProponent_3 rfl ?_
      refine q_getf (k := 1) kC_X2 kL_X2_15 rfl (by decide) dX2_isMovedByProponent_4 c0 rfl ?_
      refine q_icmp_ge 35 dX2_isMovedByProponent_7 (by decide) (fun b7 => ?_) (fun b7 => ?_)
      · exact absurd b7 (nI_ge (by omega) (by omega))
      · refine q_iload_n dX2_isMovedByProponent_10 rfl ?_
        refine q_invS (as := [.int (nI k)]) dX2_isMovedByProponent_11 kM_X2_isProponents kL_X2_41 kT_X2_isProponents rfl rfl rfl (by decide) (by omega) (by decide) (by omega) (by omega) (e_isProponents (d := d - 1) (by omega)) (q_kR ?_) q_xR
        change q_W _ _ _ _ _ _ _ _ 14 [.ref (b), .int (xid), .int (nI k)] [.int (z_b (k % 2 == 0))] _
        refine q_if_eq 29 dX2_isMovedByProponent_14 (by decide) (fun b14 => ?_) (fun b14 => ?_)
        · rw [z_pm, if_neg (by rw [z_b0 b14]; simp)]
          refine q_iinc (x := nI k) (v := nI (k + 1)) dX2_isMovedByProponent_29 rfl (nI_1 _) rfl ?_
          change q_W _ _ _ _ _ _ _ _ _ [.ref (b), .int (xid), .int (nI (k + 1))] _ _
          refine q_goto 2 dX2_isMovedByProponent_32 (by decide) ?_
          exact ih (k + 1) (by omega)
        · refine q_aload_n (by first | assumption | omega | decide) dX2_isMovedByProponent_17 rfl ?_
          refine q_getf (k := 0) kC_X2 kL_X2_9 rfl (by decide) dX2_isMovedByProponent_18 c0 rfl ?_
          refine q_iload_n dX2_isMovedByProponent_21 rfl ?_
          refine q_ialdN (j := k) dX2_isMovedByProponent_22 c1 (by omega) (by decide) ?_
          refine q_iload_n dX2_isMovedByProponent_23 rfl ?_
          refine q_icmp_ne 29 dX2_isMovedByProponent_24 (by decide) (fun b24 => ?_) (fun b24 => ?_)
          · rw [z_pm, if_neg (by simp [b24])]
            refine q_iinc (x := nI k) (v := nI (k + 1)) dX2_isMovedByProponent_29 rfl (nI_1 _) rfl ?_
            change q_W _ _ _ _ _ _ _ _ _ [.ref (b), .int (xid), .int (nI (k + 1))] _ _
            refine q_goto 2 dX2_isMovedByProponent_32 (by decide) ?_
            exact ih (k + 1) (by omega)
          · refine q_iconst (v := 1) dX2_isMovedByProponent_27 rfl ?_
            rw [z_pm, if_pos (by rw [z_b1 b14]; simp [b24])]
            exact q_ireturn dX2_isMovedByProponent_28 rfl rfl (by omega) (by omega) (⟨rfl, rfl⟩)
  refine q_enter (by decide +kernel) rfl rfl (Nat.le_of_ble_eq_true rfl) (fun hz => ?_)
  change q_W _ _ _ _ _ _ _ _ _ [.ref (b), .int (xid), q_u] [] _
  refine q_iconst (v := 0) dX2_isMovedByProponent_0 rfl ?_
  refine q_istore_n dX2_isMovedByProponent_1 (by decide) rfl ?_
  change q_W _ _ _ _ _ _ _ _ _ [.ref (b), .int (xid), .int (0)] _ _
  exact loop mn 0 (by omega)

set_option maxRecDepth 100000 in
set_option maxHeartbeats 4000000 in
theorem e_dlAdd {g : q_G} {h : q_H} {b mn d : Nat} {mv : Nat → Int32} {en wo br : Int32} (s : z_Dl h b mn mv en wo br) (hd : 1 ≤ d) (hm : mn < 12) (xid : Int32) : q_Spec g mX2_add d 0 0 [.ref b, .int xid] h (q_retP none (fun h1 => z_Dl h1 b (mn + 1) (upd mv mn xid) en wo br ∧ q_same h h1 b 2)) := by
  have sS := s
  obtain ⟨s0, s1, s2, c0, c1⟩ := sS
  refine q_enter (by decide +kernel) rfl rfl (Nat.le_of_ble_eq_true rfl) (fun hz => ?_)
  change q_W _ _ _ _ _ _ _ _ _ [.ref (b), .int (xid)] [] _
  refine q_aload_n (by first | assumption | omega | decide) dX2_add_0 rfl ?_
  refine q_invV (as := []) dX2_add_1 kM_X2_isFull kL_X2_45 kI_X2_isFull kS_X2_isFull rfl (kC_X2.1) c0 rfl rfl (by decide) (by omega) (by decide) (by omega) (by omega) (e_isFull (d := d - 1) s) (q_kR ?_) q_xR
  change q_W _ _ _ _ _ _ _ _ 4 [.ref (b), .int (xid)] [.int (z_b (decide (mn = 12)))] _
  refine q_if_ne 27 dX2_add_4 (by decide) (fun b4 => ?_) (fun b4 => ?_)
  · exact absurd (z_b1 b4) (by simpa using Nat.ne_of_lt hm)
  · refine q_aload_n (by first | assumption | omega | decide) dX2_add_7 rfl ?_
    refine q_getf (k := 0) kC_X2 kL_X2_9 rfl (by decide) dX2_add_8 c0 rfl ?_
    refine q_aload_n (by first | assumption | omega | decide) dX2_add_11 rfl ?_
    refine q_getf (k := 1) kC_X2 kL_X2_15 rfl (by decide) dX2_add_12 c0 rfl ?_
    refine q_iload_n dX2_add_15 rfl ?_
    refine q_iastN (j := mn) dX2_add_16 c1 (by omega) (by decide) ?_
    refine z_genW (B := fun h1 => z_Dl h1 b mn (upd mv mn xid) en wo br ∧ q_same h h1 b 2) (⟨s.arr, q_same.set (by omega) (by omega)⟩) (fun h1 hB => ?_)
    obtain ⟨s1, p1⟩ := hB
    have sS := s1
    obtain ⟨-, -, -, e0, e1⟩ := sS
    refine q_aload_n (by first | assumption | omega | decide) dX2_add_17 rfl ?_
    refine q_dup dX2_add_18 rfl ?_
    refine q_getf (k := 1) kC_X2 kL_X2_15 rfl (by decide) dX2_add_19 e0 rfl ?_
    refine q_iconst (v := 1) dX2_add_22 rfl ?_
    refine q_iadd dX2_add_23 ?_
    rw [nI_1 (mn)]
    refine q_putf (k := 1) kC_X2 kL_X2_15 rfl (by decide) rfl dX2_add_24 e0 (by decide) ⟨rfl, rfl⟩ rfl ?_
    refine z_genW (B := fun h2 => z_Dl h2 b (mn + 1) (upd mv mn xid) en wo br ∧ q_same h h2 b 2) (⟨s1.set (by omega), p1.trans (q_same.set (by omega) (by omega))⟩) (fun h2 hB => ?_)
    obtain ⟨s2, p2⟩ := hB
    exact q_return dX2_add_27 rfl (by omega) (by omega) (⟨rfl, s2, p2⟩)
