def z_Dl2 (h : q_H) (b : Nat) (mn : Nat) (mv : Nat → Int32) (en : Int32) (wo : Int32) (br : Int32) : Prop :=
  q_R0 ≤ b ∧
  b + 2 ≤ h.1 ∧
  mn ≤ 12 ∧
  h.2 (b) = some (.inr (4, [.ref (b + 1), .int (nI (mn)), .int (en), .int (wo), .int (br)])) ∧
  h.2 (b + 1) = some (.inl (0, 12, .inl (mv)))
theorem z_Dl2.r0 {h : q_H} {b : Nat} {mn : Nat} {mv : Nat → Int32} {en : Int32} {wo : Int32} {br : Int32} (s : z_Dl2 h b mn mv en wo br) : q_R0 ≤ b := s.1
theorem z_Dl2.s0 {h : q_H} {b : Nat} {mn : Nat} {mv : Nat → Int32} {en : Int32} {wo : Int32} {br : Int32} (s : z_Dl2 h b mn mv en wo br) : b + 2 ≤ h.1 := s.2.1
theorem z_Dl2.bmn {h : q_H} {b : Nat} {mn : Nat} {mv : Nat → Int32} {en : Int32} {wo : Int32} {br : Int32} (s : z_Dl2 h b mn mv en wo br) : mn ≤ 12 := s.2.2.1
theorem z_Dl2.c0 {h : q_H} {b : Nat} {mn : Nat} {mv : Nat → Int32} {en : Int32} {wo : Int32} {br : Int32} (s : z_Dl2 h b mn mv en wo br) : h.2 (b) = some (.inr (4, [.ref (b + 1), .int (nI (mn)), .int (en), .int (wo), .int (br)])) := s.2.2.2.1
theorem z_Dl2.c1 {h : q_H} {b : Nat} {mn : Nat} {mv : Nat → Int32} {en : Int32} {wo : Int32} {br : Int32} (s : z_Dl2 h b mn mv en wo br) : h.2 (b + 1) = some (.inl (0, 12, .inl (mv))) := s.2.2.2.2
theorem z_Dl2.keep {h1 : q_H} {b1 k1 : Nat} {h : q_H} {b : Nat} {mn : Nat} {mv : Nat → Int32} {en : Int32} {wo : Int32} {br : Int32} (s : z_Dl2 h b mn mv en wo br) (q : q_same h h1 b1 k1) (hx : b + 2 ≤ b1 ∨ b1 + k1 ≤ b) : z_Dl2 h1 b mn mv en wo br := by
  obtain ⟨w0, w1, w2, w3, w4⟩ := s
  exact ⟨w0, Nat.le_trans w1 q.1, w2, (q.2 _ (by omega) (by omega)).trans w3, (q.2 _ (by omega) (by omega)).trans w4⟩
theorem z_Dl2.put0 {h : q_H} {b : Nat} {mn : Nat} {mv : Nat → Int32} {en : Int32} {wo : Int32} {br : Int32} (s : z_Dl2 h b mn mv en wo br) {mn' : Nat} {en' : Int32} {wo' : Int32} {br' : Int32} (hbmn : mn' ≤ 12)  : z_Dl2 (q_set h (b) (.inr (4, [.ref (b + 1), .int (nI (mn')), .int (en'), .int (wo'), .int (br')]))) b mn' mv en' wo' br' := by
  obtain ⟨w0, w1, w2, w3, w4⟩ := s
  exact ⟨w0, w1, hbmn, q_set_eq, (q_set_ne (by omega)).trans w4⟩
theorem z_Dl2.put1 {h : q_H} {b : Nat} {mn : Nat} {mv : Nat → Int32} {en : Int32} {wo : Int32} {br : Int32} (s : z_Dl2 h b mn mv en wo br) {mv' : Nat → Int32}   : z_Dl2 (q_set h (b + 1) (.inl (0, 12, .inl (mv')))) b mn mv' en wo br := by
  obtain ⟨w0, w1, w2, w3, w4⟩ := s
  exact ⟨w0, w1, w2, (q_set_ne (by omega)).trans w3, q_set_eq⟩
def x_dl_isProponents (k : Nat) : Bool := (if k % 2 = 0 then true else false)
set_option maxRecDepth 100000 in
set_option maxHeartbeats 8000000 in
theorem e_dl_isProponents {g : q_G} {h : q_H} {d : Nat}  (k : Nat) (hk : k < 2147483648)  (hd : 0 ≤ d) : q_Spec g mX2_isProponents d 0 0 [.int (nI (k))] h (q_ret ((some (.int (z_b (x_dl_isProponents k))))) h) := by
  refine q_enter (by decide +kernel) rfl rfl (Nat.le_of_ble_eq_true rfl) (fun hz => ?_)
  change q_W _ _ _ _ _ _ _ _ _ [.int (nI (k))] [] _
  refine q_iload_n dX2_isProponents_0 rfl ?_
  refine q_iconst (v := 2) dX2_isProponents_1 rfl ?_
  refine q_iremN (a := k) (b := 2) (by omega) (by decide) (by decide) dX2_isProponents_2 ?_
  refine q_if_ne 10 dX2_isProponents_3 (by decide) (fun b3 => ?_) (fun b3 => ?_)
  · have b3 : ¬ (k % 2 = 0) := fun q => b3 ((nI_eq (a := k % 2) (b := 0) (by omega) (by omega)).mpr q)
    refine q_iconst (v := 0) dX2_isProponents_10 rfl ?_
    have hE : x_dl_isProponents k = false := by simp only [x_dl_isProponents, if_neg b3]
    rw [hE]
    exact q_ireturn dX2_isProponents_11 rfl rfl (by omega) (by omega) ⟨rfl, rfl⟩
  · have b3 := (nI_eq (a := k % 2) (b := 0) (by omega) (by omega)).mp b3
    refine q_iconst (v := 1) dX2_isProponents_6 rfl ?_
    refine q_goto 11 dX2_isProponents_7 (by decide) ?_
    have hE : x_dl_isProponents k = true := by simp only [x_dl_isProponents, if_pos b3]
    rw [hE]
    exact q_ireturn dX2_isProponents_11 rfl rfl (by omega) (by omega) ⟨rfl, rfl⟩
def x_dl_isHeld (mn : Nat) : Bool := (if mn ≤ 0 then false else true)
set_option maxRecDepth 100000 in
set_option maxHeartbeats 8000000 in
theorem e_dl_isHeld {g : q_G} {h : q_H} {d : Nat} {b : Nat} {mn : Nat} {mv : Nat → Int32} {en : Int32} {wo : Int32} {br : Int32} (sdl : z_Dl2 h b mn mv en wo br)    (hd : 0 ≤ d) : q_Spec g mX2_isHeld d 0 0 [.ref (b)] h (q_ret ((some (.int (z_b (x_dl_isHeld mn))))) h) := by
  have hr_dl := sdl.r0
  have hb_dl_mn := sdl.bmn
  have ho_dl_mn := sdl.bmn
  refine q_enter (by decide +kernel) rfl rfl (Nat.le_of_ble_eq_true rfl) (fun hz => ?_)
  change q_W _ _ _ _ _ _ _ _ _ [.ref (b)] [] _
  refine q_aload_n (by first | assumption | omega | decide) dX2_isHeld_0 rfl ?_
  refine q_getf (k := 1) (v := .int (nI (mn))) kC_X2 kL_X2_15 rfl (by decide) dX2_isHeld_1 sdl.c0 rfl ?_
  refine q_if_le 11 dX2_isHeld_4 (by decide) (fun b4 => ?_) (fun b4 => ?_)
  · have b4 := (nI_leI (a := mn) (b := 0) (by omega) (by omega)).mp b4
    refine q_iconst (v := 0) dX2_isHeld_11 rfl ?_
    have hE : x_dl_isHeld mn = false := by simp only [x_dl_isHeld, if_pos b4]
    rw [hE]
    exact q_ireturn dX2_isHeld_12 rfl rfl (by omega) (by omega) ⟨rfl, rfl⟩
  · have b4 : ¬ (mn ≤ 0) := fun q => b4 ((nI_leI (a := mn) (b := 0) (by omega) (by omega)).mpr q)
    refine q_iconst (v := 1) dX2_isHeld_7 rfl ?_
    refine q_goto 12 dX2_isHeld_8 (by decide) ?_
    have hE : x_dl_isHeld mn = true := by simp only [x_dl_isHeld, if_neg b4]
    rw [hE]
    exact q_ireturn dX2_isHeld_12 rfl rfl (by omega) (by omega) ⟨rfl, rfl⟩
def x_dl_isFull (mn : Nat) : Bool := (if mn < 12 then false else true)
set_option maxRecDepth 100000 in
set_option maxHeartbeats 8000000 in
theorem e_dl_isFull {g : q_G} {h : q_H} {d : Nat} {b : Nat} {mn : Nat} {mv : Nat → Int32} {en : Int32} {wo : Int32} {br : Int32} (sdl : z_Dl2 h b mn mv en wo br)    (hd : 0 ≤ d) : q_Spec g mX2_isFull d 0 0 [.ref (b)] h (q_ret ((some (.int (z_b (x_dl_isFull mn))))) h) := by
  have hr_dl := sdl.r0
  have hb_dl_mn := sdl.bmn
  have ho_dl_mn := sdl.bmn
  refine q_enter (by decide +kernel) rfl rfl (Nat.le_of_ble_eq_true rfl) (fun hz => ?_)
  change q_W _ _ _ _ _ _ _ _ _ [.ref (b)] [] _
  refine q_aload_n (by first | assumption | omega | decide) dX2_isFull_0 rfl ?_
  refine q_getf (k := 1) (v := .int (nI (mn))) kC_X2 kL_X2_15 rfl (by decide) dX2_isFull_1 sdl.c0 rfl ?_
  refine q_bipush (v := 12) dX2_isFull_4 rfl ?_
  refine q_icmp_lt 13 dX2_isFull_6 (by decide) (fun b6 => ?_) (fun b6 => ?_)
  · have b6 := (nI_ltI (a := mn) (b := 12) (by omega) (by omega)).mp b6
    refine q_iconst (v := 0) dX2_isFull_13 rfl ?_
    have hE : x_dl_isFull mn = false := by simp only [x_dl_isFull, if_pos b6]
    rw [hE]
    exact q_ireturn dX2_isFull_14 rfl rfl (by omega) (by omega) ⟨rfl, rfl⟩
  · have b6 : ¬ (mn < 12) := fun q => b6 ((nI_ltI (a := mn) (b := 12) (by omega) (by omega)).mpr q)
    refine q_iconst (v := 1) dX2_isFull_9 rfl ?_
    refine q_goto 14 dX2_isFull_10 (by decide) ?_
    have hE : x_dl_isFull mn = true := by simp only [x_dl_isFull, if_neg b6]
    rw [hE]
    exact q_ireturn dX2_isFull_14 rfl rfl (by omega) (by omega) ⟨rfl, rfl⟩
theorem z_full {mn : Nat} (h : x_dl_isFull mn = true) : 12 ≤ mn := by
  unfold x_dl_isFull at h
  split at h <;> simp_all
theorem z_nfull {mn : Nat} (h : ¬ x_dl_isFull mn = true) : mn < 12 := by
  unfold x_dl_isFull at h
  split at h <;> simp_all
theorem z_held {mn : Nat} (h : x_dl_isHeld mn = true) : 0 < mn := by
  unfold x_dl_isHeld at h
  split at h <;> simp_all
  omega
theorem z_nheld {mn : Nat} (h : ¬ x_dl_isHeld mn = true) : mn = 0 := by
  unfold x_dl_isHeld at h
  split at h <;> simp_all
def x_dl_mustBeHeld (mn : Nat) : Unit ⊕ String := (if mn = 0 then .inr "java/util/NoSuchElementException" else .inl ())
set_option maxRecDepth 100000 in
set_option maxHeartbeats 8000000 in
theorem e_dl_mustBeHeld {g : q_G} {h : q_H} {d : Nat} {b : Nat} {mn : Nat} {mv : Nat → Int32} {en : Int32} {wo : Int32} {br : Int32} (sdl : z_Dl2 h b mn mv en wo br)    (hd : 7 ≤ d) : q_Spec g mX2_mustBeHeld d 1 6 [.ref (b)] h (q_out (q_oU (x_dl_mustBeHeld mn)) h) := by
  have hr_dl := sdl.r0
  have hb_dl_mn := sdl.bmn
  have ho_dl_mn := sdl.bmn
  refine q_enter (by decide +kernel) rfl rfl (Nat.le_of_ble_eq_true rfl) (fun hz => ?_)
  change q_W _ _ _ _ _ _ _ _ _ [.ref (b)] [] _
  refine q_aload_n (by first | assumption | omega | decide) dX2_mustBeHeld_0 rfl ?_
  refine q_getf (k := 1) (v := .int (nI (mn))) kC_X2 kL_X2_15 rfl (by decide) dX2_mustBeHeld_1 sdl.c0 rfl ?_
  refine q_if_ne 17 dX2_mustBeHeld_4 (by decide) (fun b4 => ?_) (fun b4 => ?_)
  · have b4 : ¬ (mn = 0) := fun q => b4 ((nI_eq (a := mn) (b := 0) (by omega) (by omega)).mpr q)
    have hE : x_dl_mustBeHeld mn = .inl () := by simp only [x_dl_mustBeHeld, if_neg b4]
    rw [hE]
    exact q_return dX2_mustBeHeld_17 rfl (by omega) (by omega) ⟨rfl, rfl⟩
  · have b4 := (nI_eq (a := mn) (b := 0) (by omega) (by omega)).mp b4
    have hE : x_dl_mustBeHeld mn = .inr "java/util/NoSuchElementException" := by simp only [x_dl_mustBeHeld, if_pos b4]
    rw [hE]
    refine q_throw kE_X2_38 kR_X2_36 rfl dX2_mustBeHeld_7 dX2_mustBeHeld_10 dX2_mustBeHeld_11 dX2_mustBeHeld_13 dX2_mustBeHeld_16 (Nat.le_of_ble_eq_true rfl) (by omega) (by omega) (by omega) ?_
    exact q_xout rfl ⟨rfl, rfl⟩ (by omega) (by omega)
theorem z_mbh {mn : Nat} {v : Unit} (h : x_dl_mustBeHeld mn = .inl v) : mn ≠ 0 := by
  intro e
  simp [x_dl_mustBeHeld, e] at h
def x_dl_last (mn : Nat) (mv : Nat → Int32) : Int32 := (if mn ≤ 0 then -1 else mv (mn - 1))
set_option maxRecDepth 100000 in
set_option maxHeartbeats 8000000 in
theorem e_dl_last {g : q_G} {h : q_H} {d : Nat} {b : Nat} {mn : Nat} {mv : Nat → Int32} {en : Int32} {wo : Int32} {br : Int32} (sdl : z_Dl2 h b mn mv en wo br)    (hd : 0 ≤ d) : q_Spec g mX2_last d 0 0 [.ref (b)] h (q_ret ((some (.int (x_dl_last mn mv)))) h) := by
  have hr_dl := sdl.r0
  have hb_dl_mn := sdl.bmn
  have ho_dl_mn := sdl.bmn
  refine q_enter (by decide +kernel) rfl rfl (Nat.le_of_ble_eq_true rfl) (fun hz => ?_)
  change q_W _ _ _ _ _ _ _ _ _ [.ref (b)] [] _
  refine q_aload_n (by first | assumption | omega | decide) dX2_last_0 rfl ?_
  refine q_getf (k := 1) (v := .int (nI (mn))) kC_X2 kL_X2_15 rfl (by decide) dX2_last_1 sdl.c0 rfl ?_
  refine q_if_le 21 dX2_last_4 (by decide) (fun b4 => ?_) (fun b4 => ?_)
  · have b4 := (nI_leI (a := mn) (b := 0) (by omega) (by omega)).mp b4
    refine q_iconst (v := -1) dX2_last_21 rfl ?_
    have hE : x_dl_last mn mv = -1 := by simp only [x_dl_last, if_pos b4]
    rw [hE]
    exact q_ireturn dX2_last_22 rfl rfl (by omega) (by omega) ⟨rfl, rfl⟩
  · have b4 : ¬ (mn ≤ 0) := fun q => b4 ((nI_leI (a := mn) (b := 0) (by omega) (by omega)).mpr q)
    refine q_aload_n (by first | assumption | omega | decide) dX2_last_7 rfl ?_
    refine q_getf (k := 0) (v := .ref (b + 1)) kC_X2 kL_X2_9 rfl (by decide) dX2_last_8 sdl.c0 rfl ?_
    refine q_aload_n (by first | assumption | omega | decide) dX2_last_11 rfl ?_
    refine q_getf (k := 1) (v := .int (nI (mn))) kC_X2 kL_X2_15 rfl (by decide) dX2_last_12 sdl.c0 rfl ?_
    refine q_iconst (v := 1) dX2_last_15 rfl ?_
    refine q_isubN (a := mn) (b := 1) (by omega) dX2_last_16 ?_
    refine q_ialdN (j := mn - 1) (f := mv) dX2_last_17 sdl.c1 (by omega) (by decide) ?_
    change q_W _ _ _ _ _ _ _ _ _ _ [.int (mv (mn - 1))] _
    refine q_goto 22 dX2_last_18 (by decide) ?_
    have hE : x_dl_last mn mv = mv (mn - 1) := by simp only [x_dl_last, if_neg b4]
    rw [hE]
    exact q_ireturn dX2_last_22 rfl rfl (by omega) (by omega) ⟨rfl, rfl⟩
def x_dl_isMovedByProponent_2 (mv : Nat → Int32) (xid : Int32) : Nat → Nat → (Unit) ⊕ (Bool)
  | 0, _ => .inl ()
  | r + 1, k => (if x_dl_isProponents k then (if (mv k) = (xid) then .inr true else x_dl_isMovedByProponent_2 mv xid r (k + 1) ) else x_dl_isMovedByProponent_2 mv xid r (k + 1) )
set_option maxRecDepth 100000 in
set_option maxHeartbeats 8000000 in
theorem l_dl_isMovedByProponent_2 {g : q_G} {h : q_H} {d mc ms kc ks : Nat} {Q : q_O → q_H → Prop} {b : Nat} {mn : Nat} {mv : Nat → Int32} {en : Int32} {wo : Int32} {br : Int32} {xid : Int32} (sdl : z_Dl2 h b mn mv en wo br)  (ho_dl_mn : mn ≤ 12)  (hd : 1 ≤ d) (hkc : kc + 0 ≤ mc) (hks : ks + 0 ≤ ms) : ∀ (r k : Nat)  (hk_2 : k + r = mn) (K : ∀ (_ : Unit), x_dl_isMovedByProponent_2 mv xid r k  = .inl () → q_W g mX2_isMovedByProponent d mc ms Q kc ks 35 [q_u, q_u, q_u] [] h) (K2 : ∀ z, x_dl_isMovedByProponent_2 mv xid r k  = .inr z → ∀ o h1, q_ret ((some (.int (z_b z)))) h o h1 → Q o h1), q_W g mX2_isMovedByProponent d mc ms Q kc ks 2 [.ref (b), .int (xid), .int (nI (k))] [] h := by
  intro r
  induction r with
  | zero =>
    intro k   hk_2 K K2
    have hr_dl := sdl.r0
    have hb_dl_mn := sdl.bmn
    refine q_iload_n dX2_isMovedByProponent_2 rfl ?_
    refine q_aload_n (by first | assumption | omega | decide) dX2_isMovedByProponent_3 rfl ?_
    refine q_getf (k := 1) (v := .int (nI (mn))) kC_X2 kL_X2_15 rfl (by decide) dX2_isMovedByProponent_4 sdl.c0 rfl ?_
    refine q_icmp_ge 35 dX2_isMovedByProponent_7 (by decide) (fun b7 => ?_) (fun b7 => ?_)
    · have b7 := (nI_leI (a := mn) (b := k) (by omega) (by omega)).mp b7
      refine q_forget 0 ?_
      refine q_forget 1 ?_
      refine q_forget 2 ?_
      change q_W _ _ _ _ _ _ _ _ _ [q_u, q_u, q_u] [] _
      exact K () (by simp only [x_dl_isMovedByProponent_2])
    · have b7 : ¬ (mn ≤ k) := fun q => b7 ((nI_leI (a := mn) (b := k) (by omega) (by omega)).mpr q)
      exact absurd b7 (by omega)
  | succ r ih =>
    intro k   hk_2 K K2
    have hr_dl := sdl.r0
    have hb_dl_mn := sdl.bmn
    refine q_iload_n dX2_isMovedByProponent_2 rfl ?_
    refine q_aload_n (by first | assumption | omega | decide) dX2_isMovedByProponent_3 rfl ?_
    refine q_getf (k := 1) (v := .int (nI (mn))) kC_X2 kL_X2_15 rfl (by decide) dX2_isMovedByProponent_4 sdl.c0 rfl ?_
    refine q_icmp_ge 35 dX2_isMovedByProponent_7 (by decide) (fun b7 => ?_) (fun b7 => ?_)
    · have b7 := (nI_leI (a := mn) (b := k) (by omega) (by omega)).mp b7
      exact absurd b7 (by omega)
    · have b7 : ¬ (mn ≤ k) := fun q => b7 ((nI_leI (a := mn) (b := k) (by omega) (by omega)).mpr q)
      refine q_iload_n dX2_isMovedByProponent_10 rfl ?_
      refine q_invS (mc' := 0) (ms' := 0) (d' := d - 1) (as := [.int (nI (k))]) dX2_isMovedByProponent_11 kM_X2_isProponents kL_X2_41 kT_X2_isProponents rfl rfl rfl (Nat.le_of_ble_eq_true rfl) (by omega) (by decide) (by omega) (by omega) (e_dl_isProponents (d := d - 1) k (by omega) (by omega)) (q_kR ?_) q_xR
      change q_W _ _ _ _ _ _ _ _ 14 [.ref (b), .int (xid), .int (nI (k))] [.int (z_b (x_dl_isProponents k))] _
      refine q_if_eq 29 dX2_isMovedByProponent_14 (by decide) (fun b14 => ?_) (fun b14 => ?_)
      · have b14 := z_b0n b14
        refine q_iinc (x := nI (k)) (v := nI (k + 1)) dX2_isMovedByProponent_29 rfl (nI_add _ 1) rfl ?_
        change q_W _ _ _ _ _ _ _ _ _ [.ref (b), .int (xid), .int (nI (k + 1))] [] _
        refine q_goto 2 dX2_isMovedByProponent_32 (by decide) ?_
        change q_W _ _ _ _ _ _ _ _ _ [.ref (b), .int (xid), .int (nI (k + 1))] [] _
        exact ih (k + 1)  (by omega) (fun _ e9 => K () (by simp only [x_dl_isMovedByProponent_2, if_neg b14]; exact e9)) (fun z9 e9 => K2 z9 (by simp only [x_dl_isMovedByProponent_2, if_neg b14]; exact e9))
      · have b14 := z_b1 b14
        refine q_aload_n (by first | assumption | omega | decide) dX2_isMovedByProponent_17 rfl ?_
        refine q_getf (k := 0) (v := .ref (b + 1)) kC_X2 kL_X2_9 rfl (by decide) dX2_isMovedByProponent_18 sdl.c0 rfl ?_
        refine q_iload_n dX2_isMovedByProponent_21 rfl ?_
        refine q_ialdN (j := k) (f := mv) dX2_isMovedByProponent_22 sdl.c1 (by omega) (by decide) ?_
        change q_W _ _ _ _ _ _ _ _ _ _ [.int (mv k)] _
        refine q_iload_n dX2_isMovedByProponent_23 rfl ?_
        refine q_icmp_ne 29 dX2_isMovedByProponent_24 (by decide) (fun b24 => ?_) (fun b24 => ?_)
        · refine q_iinc (x := nI (k)) (v := nI (k + 1)) dX2_isMovedByProponent_29 rfl (nI_add _ 1) rfl ?_
          change q_W _ _ _ _ _ _ _ _ _ [.ref (b), .int (xid), .int (nI (k + 1))] [] _
          refine q_goto 2 dX2_isMovedByProponent_32 (by decide) ?_
          change q_W _ _ _ _ _ _ _ _ _ [.ref (b), .int (xid), .int (nI (k + 1))] [] _
          exact ih (k + 1)  (by omega) (fun _ e9 => K () (by simp only [x_dl_isMovedByProponent_2, if_pos b14, if_neg b24]; exact e9)) (fun z9 e9 => K2 z9 (by simp only [x_dl_isMovedByProponent_2, if_pos b14, if_neg b24]; exact e9))
        · refine q_iconst (v := 1) dX2_isMovedByProponent_27 rfl ?_
          exact q_ireturn dX2_isMovedByProponent_28 rfl rfl (by omega) (by omega) (K2 true (by simp only [x_dl_isMovedByProponent_2, if_pos b14, if_pos b24]) _ _ ⟨rfl, rfl⟩)
def x_dl_isMovedByProponent (mn : Nat) (mv : Nat → Int32) (xid : Int32) : Bool := (match x_dl_isMovedByProponent_2 mv xid mn 0 with | .inl () => false | .inr zz => zz)
set_option maxRecDepth 100000 in
set_option maxHeartbeats 8000000 in
theorem e_dl_isMovedByProponent {g : q_G} {h : q_H} {d : Nat} {b : Nat} {mn : Nat} {mv : Nat → Int32} {en : Int32} {wo : Int32} {br : Int32} (sdl : z_Dl2 h b mn mv en wo br) (xid : Int32)   (hd : 1 ≤ d) : q_Spec g mX2_isMovedByProponent d 0 0 [.ref (b), .int (xid)] h (q_ret ((some (.int (z_b (x_dl_isMovedByProponent mn mv xid))))) h) := by
  have hr_dl := sdl.r0
  have hb_dl_mn := sdl.bmn
  have ho_dl_mn := sdl.bmn
  refine q_enter (by decide +kernel) rfl rfl (Nat.le_of_ble_eq_true rfl) (fun hz => ?_)
  change q_W _ _ _ _ _ _ _ _ _ [.ref (b), .int (xid), q_u] [] _
  refine q_iconst (v := 0) dX2_isMovedByProponent_0 rfl ?_
  refine q_istore_n dX2_isMovedByProponent_1 (by decide) rfl ?_
  change q_W _ _ _ _ _ _ _ _ _ [.ref (b), .int (xid), .int (0)] [] _
  change q_W _ _ _ _ _ _ _ _ _ [.ref (b), .int (xid), .int (0)] [] _
  refine l_dl_isMovedByProponent_2 sdl ho_dl_mn (by omega) (by omega) (by omega) mn 0 (by omega) (fun _ x1 => ?_) (fun zz x1 => ?_)
  · change q_W _ _ _ _ _ _ _ _ 35 [q_u, q_u, q_u] [] _
    refine q_iconst (v := 0) dX2_isMovedByProponent_35 rfl ?_
    have hE : x_dl_isMovedByProponent mn mv xid = false := by simp only [x_dl_isMovedByProponent, x1]
    rw [hE]
    exact q_ireturn dX2_isMovedByProponent_36 rfl rfl (by omega) (by omega) ⟨rfl, rfl⟩
  · have hE : x_dl_isMovedByProponent mn mv xid = zz := by simp only [x_dl_isMovedByProponent, x1]
    rw [hE]
    exact fun _ _ q9 => q9
def x_dl_add (mn : Nat) (mv : Nat → Int32) (xid : Int32) : (Nat) × (Nat → Int32) := (if x_dl_isFull mn then (mn, mv) else (mn + 1, upd mv mn (xid)))
set_option maxRecDepth 100000 in
set_option maxHeartbeats 8000000 in
theorem e_dl_add {g : q_G} {h : q_H} {d : Nat} {b : Nat} {mn : Nat} {mv : Nat → Int32} {en : Int32} {wo : Int32} {br : Int32} (sdl : z_Dl2 h b mn mv en wo br) (xid : Int32)   (hd : 1 ≤ d) : q_Spec g mX2_add d 0 0 [.ref (b), .int (xid)] h (q_chg (.inl none) (fun h1 => z_Dl2 h1 b ((x_dl_add mn mv xid).1) ((x_dl_add mn mv xid).2) en wo br ∧ q_same h h1 b 2)) := by
  have hr_dl := sdl.r0
  have hb_dl_mn := sdl.bmn
  have ho_dl_mn := sdl.bmn
  have p0 : q_same h h b 2 := q_same.rfl'
  refine q_enter (by decide +kernel) rfl rfl (Nat.le_of_ble_eq_true rfl) (fun hz => ?_)
  change q_W _ _ _ _ _ _ _ _ _ [.ref (b), .int (xid)] [] _
  refine q_aload_n (by first | assumption | omega | decide) dX2_add_0 rfl ?_
  refine q_invV (mc' := 0) (ms' := 0) (d' := d - 1) (as := []) dX2_add_1 kM_X2_isFull kL_X2_45 kI_X2_isFull kS_X2_isFull rfl (kC_X2.1) sdl.c0 rfl rfl (Nat.le_of_ble_eq_true rfl) (by omega) (by decide) (by omega) (by omega) (e_dl_isFull (d := d - 1) sdl (by omega)) (q_kR ?_) q_xR
  change q_W _ _ _ _ _ _ _ _ 4 [.ref (b), .int (xid)] [.int (z_b (x_dl_isFull mn))] _
  refine q_if_ne 27 dX2_add_4 (by decide) (fun b4 => ?_) (fun b4 => ?_)
  · have b4 := z_b1 b4
    have fb4 : 12 ≤ mn := z_full b4
    have hE : x_dl_add mn mv xid = (mn, mv) := by simp only [x_dl_add, if_pos b4]
    rw [hE]
    exact q_return dX2_add_27 rfl (by omega) (by omega) ⟨rfl, sdl, p0⟩
  · have b4 := z_b0n b4
    have fb4 : mn < 12 := z_nfull b4
    refine q_aload_n (by first | assumption | omega | decide) dX2_add_7 rfl ?_
    refine q_getf (k := 0) (v := .ref (b + 1)) kC_X2 kL_X2_9 rfl (by decide) dX2_add_8 sdl.c0 rfl ?_
    refine q_aload_n (by first | assumption | omega | decide) dX2_add_11 rfl ?_
    refine q_getf (k := 1) (v := .int (nI (mn))) kC_X2 kL_X2_15 rfl (by decide) dX2_add_12 sdl.c0 rfl ?_
    refine q_iload_n dX2_add_15 rfl ?_
    refine q_iastN (j := mn) dX2_add_16 sdl.c1 (by omega) (by decide) ?_
    refine z_genW (B := fun H => z_Dl2 H b mn (upd mv mn (xid)) en wo br ∧ q_same h H b 2) ⟨z_Dl2.put1 sdl, p0.trans (q_same.set (by omega) (by omega))⟩ (fun h1 hB => ?_)
    obtain ⟨sdl1, p1⟩ := hB
    have hb_dl_mn := sdl1.bmn
    refine q_aload_n (by first | assumption | omega | decide) dX2_add_17 rfl ?_
    refine q_dup dX2_add_18 rfl ?_
    refine q_getf (k := 1) (v := .int (nI (mn))) kC_X2 kL_X2_15 rfl (by decide) dX2_add_19 sdl1.c0 rfl ?_
    refine q_iconst (v := 1) dX2_add_22 rfl ?_
    refine q_iaddN (a := mn) (b := 1) dX2_add_23 ?_
    change q_W _ _ _ _ _ _ _ _ _ _ [.int (nI (mn + 1)), .ref (b)] _
    refine q_putf (k := 1) kC_X2 kL_X2_15 rfl (by decide) rfl dX2_add_24 sdl1.c0 (Nat.le_of_ble_eq_true rfl) ⟨rfl, rfl⟩ rfl ?_
    refine z_genW (B := fun H => z_Dl2 H b (mn + 1) (upd mv mn (xid)) en wo br ∧ q_same h H b 2) ⟨z_Dl2.put0 sdl1 (mn' := mn + 1) (hbmn := by omega), p1.trans (q_same.set (by omega) (by omega))⟩ (fun h2 hB => ?_)
    obtain ⟨sdl2, p2⟩ := hB
    have hb_dl_mn := sdl2.bmn
    have hE : x_dl_add mn mv xid = (mn + 1, upd mv mn (xid)) := by simp only [x_dl_add, if_neg b4]
    rw [hE]
    exact q_return dX2_add_27 rfl (by omega) (by omega) ⟨rfl, sdl2, p2⟩
def x_dl_dropLast (mn : Nat) : (Int32 ⊕ String) × (Nat) := (match x_dl_mustBeHeld mn with | (.inl v1) => (if mn = 1 then (.inr "java/lang/IllegalStateException", mn) else (.inl (nI (mn - 1)), mn - 1)) | (.inr e1) => (.inr e1, mn))
set_option maxRecDepth 100000 in
set_option maxHeartbeats 8000000 in
theorem e_dl_dropLast {g : q_G} {h : q_H} {d : Nat} {b : Nat} {mn : Nat} {mv : Nat → Int32} {en : Int32} {wo : Int32} {br : Int32} (sdl : z_Dl2 h b mn mv en wo br)    (hd : 8 ≤ d) : q_Spec g mX2_dropLast d 2 12 [.ref (b)] h (q_chg (q_oI (x_dl_dropLast mn).1) (fun h1 => z_Dl2 h1 b ((x_dl_dropLast mn).2) mv en wo br ∧ q_same h h1 b 2)) := by
  have hr_dl := sdl.r0
  have hb_dl_mn := sdl.bmn
  have ho_dl_mn := sdl.bmn
  have p0 : q_same h h b 2 := q_same.rfl'
  refine q_enter (by decide +kernel) rfl rfl (Nat.le_of_ble_eq_true rfl) (fun hz => ?_)
  change q_W _ _ _ _ _ _ _ _ _ [.ref (b)] [] _
  refine q_aload_n (by first | assumption | omega | decide) dX2_dropLast_0 rfl ?_
  rcases x1 : x_dl_mustBeHeld mn with v1 | e1
  · have e9 := e_dl_mustBeHeld (g := g) (h := h) (d := d - 1) sdl (by omega)
    rw [x1] at e9
    refine q_invV (mc' := 1) (ms' := 6) (d' := d - 1) (as := []) dX2_dropLast_1 kM_X2_mustBeHeld kL_X2_49 kI_X2_mustBeHeld kS_X2_mustBeHeld rfl (kC_X2.1) sdl.c0 rfl rfl (Nat.le_of_ble_eq_true rfl) (by omega) (by decide) (by omega) (by omega) (e9) (q_kR ?_) q_xR
    have f1 := z_mbh x1
    change q_W _ _ _ _ _ _ _ _ 4 [.ref (b)] [] _
    refine q_aload_n (by first | assumption | omega | decide) dX2_dropLast_4 rfl ?_
    refine q_getf (k := 1) (v := .int (nI (mn))) kC_X2 kL_X2_15 rfl (by decide) dX2_dropLast_5 sdl.c0 rfl ?_
    refine q_iconst (v := 1) dX2_dropLast_8 rfl ?_
    refine q_icmp_ne 22 dX2_dropLast_9 (by decide) (fun b9 => ?_) (fun b9 => ?_)
    · have b9 : ¬ (mn = 1) := fun q => b9 ((nI_eq (a := mn) (b := 1) (by omega) (by omega)).mpr q)
      refine q_aload_n (by first | assumption | omega | decide) dX2_dropLast_22 rfl ?_
      refine q_dup dX2_dropLast_23 rfl ?_
      refine q_getf (k := 1) (v := .int (nI (mn))) kC_X2 kL_X2_15 rfl (by decide) dX2_dropLast_24 sdl.c0 rfl ?_
      refine q_iconst (v := 1) dX2_dropLast_27 rfl ?_
      refine q_isubN (a := mn) (b := 1) (by omega) dX2_dropLast_28 ?_
      refine q_putf (k := 1) kC_X2 kL_X2_15 rfl (by decide) rfl dX2_dropLast_29 sdl.c0 (Nat.le_of_ble_eq_true rfl) ⟨rfl, rfl⟩ rfl ?_
      refine z_genW (B := fun H => z_Dl2 H b (mn - 1) mv en wo br ∧ q_same h H b 2) ⟨z_Dl2.put0 sdl (mn' := mn - 1) (hbmn := by omega), p0.trans (q_same.set (by omega) (by omega))⟩ (fun h3 hB => ?_)
      obtain ⟨sdl3, p3⟩ := hB
      have hb_dl_mn := sdl3.bmn
      refine q_aload_n (by first | assumption | omega | decide) dX2_dropLast_32 rfl ?_
      refine q_getf (k := 1) (v := .int (nI (mn - 1))) kC_X2 kL_X2_15 rfl (by decide) dX2_dropLast_33 sdl3.c0 rfl ?_
      have hE : x_dl_dropLast mn = (.inl (nI (mn - 1)), mn - 1) := by simp only [x_dl_dropLast, x1, if_neg b9]
      rw [hE]
      exact q_ireturn dX2_dropLast_36 rfl rfl (by omega) (by omega) ⟨rfl, sdl3, p3⟩
    · have b9 := (nI_eq (a := mn) (b := 1) (by omega) (by omega)).mp b9
      have hE : x_dl_dropLast mn = (.inr "java/lang/IllegalStateException", mn) := by simp only [x_dl_dropLast, x1, if_pos b9]
      rw [hE]
      refine q_throw kE_X2_56 kR_X2_54 rfl dX2_dropLast_12 dX2_dropLast_15 dX2_dropLast_16 dX2_dropLast_18 dX2_dropLast_21 (Nat.le_of_ble_eq_true rfl) (by omega) (by omega) (by omega) ?_
      exact q_xout rfl ⟨rfl, sdl.keep (q_same.skip (a := 0) (k := 0)) (Or.inr (Nat.zero_le _)), p0.trans q_same.skip⟩ (by omega) (by omega)
  · have e9 := e_dl_mustBeHeld (g := g) (h := h) (d := d - 1) sdl (by omega)
    rw [x1] at e9
    refine q_invV (mc' := 1) (ms' := 6) (d' := d - 1) (as := []) dX2_dropLast_1 kM_X2_mustBeHeld kL_X2_49 kI_X2_mustBeHeld kS_X2_mustBeHeld rfl (kC_X2.1) sdl.c0 rfl rfl (Nat.le_of_ble_eq_true rfl) (by omega) (by decide) (by omega) (by omega) (e9) q_kT (q_xT ?_)
    have hE : x_dl_dropLast mn = (.inr e1, mn) := by simp only [x_dl_dropLast, x1]
    rw [hE]
    exact q_xout rfl ⟨rfl, sdl.keep (q_same.skip (a := 0) (k := 0)) (Or.inr (Nat.zero_le _)), p0.trans q_same.skip⟩ (by omega) (by omega)
def x_dl_end (mn : Nat) (en : Int32) (wo : Int32) : (Int32 ⊕ String) × (Nat) × (Int32) × (Int32) := (match x_dl_mustBeHeld mn with | (.inl v1) => (if x_dl_isProponents (mn - 1) then (.inl 112, 0, en + (1 : Int32), wo + (1 : Int32)) else (.inl 111, 0, en + (1 : Int32), wo)) | (.inr e1) => (.inr e1, mn, en, wo))
set_option maxRecDepth 100000 in
set_option maxHeartbeats 8000000 in
theorem e_dl_end {g : q_G} {h : q_H} {d : Nat} {b : Nat} {mn : Nat} {mv : Nat → Int32} {en : Int32} {wo : Int32} {br : Int32} (sdl : z_Dl2 h b mn mv en wo br)    (hd : 8 ≤ d) : q_Spec g mX2_end d 1 6 [.ref (b)] h (q_chg (q_oI (x_dl_end mn en wo).1) (fun h1 => z_Dl2 h1 b ((x_dl_end mn en wo).2.1) mv ((x_dl_end mn en wo).2.2.1) ((x_dl_end mn en wo).2.2.2) br ∧ q_same h h1 b 2)) := by
  have hr_dl := sdl.r0
  have hb_dl_mn := sdl.bmn
  have ho_dl_mn := sdl.bmn
  have p0 : q_same h h b 2 := q_same.rfl'
  refine q_enter (by decide +kernel) rfl rfl (Nat.le_of_ble_eq_true rfl) (fun hz => ?_)
  change q_W _ _ _ _ _ _ _ _ _ [.ref (b), q_u] [] _
  refine q_aload_n (by first | assumption | omega | decide) dX2_end_0 rfl ?_
  rcases x1 : x_dl_mustBeHeld mn with v1 | e1
  · have e9 := e_dl_mustBeHeld (g := g) (h := h) (d := d - 1) sdl (by omega)
    rw [x1] at e9
    refine q_invV (mc' := 1) (ms' := 6) (d' := d - 1) (as := []) dX2_end_1 kM_X2_mustBeHeld kL_X2_49 kI_X2_mustBeHeld kS_X2_mustBeHeld rfl (kC_X2.1) sdl.c0 rfl rfl (Nat.le_of_ble_eq_true rfl) (by omega) (by decide) (by omega) (by omega) (e9) (q_kR ?_) q_xR
    have f1 := z_mbh x1
    change q_W _ _ _ _ _ _ _ _ 4 [.ref (b), q_u] [] _
    refine q_aload_n (by first | assumption | omega | decide) dX2_end_4 rfl ?_
    refine q_getf (k := 1) (v := .int (nI (mn))) kC_X2 kL_X2_15 rfl (by decide) dX2_end_5 sdl.c0 rfl ?_
    refine q_iconst (v := 1) dX2_end_8 rfl ?_
    refine q_isubN (a := mn) (b := 1) (by omega) dX2_end_9 ?_
    refine q_invS (mc' := 0) (ms' := 0) (d' := d - 1) (as := [.int (nI (mn - 1))]) dX2_end_10 kM_X2_isProponents kL_X2_41 kT_X2_isProponents rfl rfl rfl (Nat.le_of_ble_eq_true rfl) (by omega) (by decide) (by omega) (by omega) (e_dl_isProponents (d := d - 1) (mn - 1) (by omega) (by omega)) (q_kR ?_) q_xR
    change q_W _ _ _ _ _ _ _ _ 13 [.ref (b), q_u] [.int (z_b (x_dl_isProponents (mn - 1)))] _
    refine q_istore_n dX2_end_13 (by decide) rfl ?_
    change q_W _ _ _ _ _ _ _ _ _ [.ref (b), .int (z_b (x_dl_isProponents (mn - 1)))] [] _
    refine q_aload_n (by first | assumption | omega | decide) dX2_end_14 rfl ?_
    refine q_iconst (v := 0) dX2_end_15 rfl ?_
    refine q_putf (k := 1) kC_X2 kL_X2_15 rfl (by decide) rfl dX2_end_16 sdl.c0 (Nat.le_of_ble_eq_true rfl) ⟨rfl, rfl⟩ rfl ?_
    refine z_genW (B := fun H => z_Dl2 H b 0 mv en wo br ∧ q_same h H b 2) ⟨z_Dl2.put0 sdl (mn' := 0) (hbmn := by omega), p0.trans (q_same.set (by omega) (by omega))⟩ (fun h3 hB => ?_)
    obtain ⟨sdl3, p3⟩ := hB
    refine q_aload_n (by first | assumption | omega | decide) dX2_end_19 rfl ?_
    refine q_dup dX2_end_20 rfl ?_
    refine q_getf (k := 2) (v := .int (en)) kC_X2 kL_X2_19 rfl (by decide) dX2_end_21 sdl3.c0 rfl ?_
    refine q_iconst (v := 1) dX2_end_24 rfl ?_
    refine q_iadd dX2_end_25 ?_
    refine q_putf (k := 2) kC_X2 kL_X2_19 rfl (by decide) rfl dX2_end_26 sdl3.c0 (Nat.le_of_ble_eq_true rfl) ⟨rfl, rfl⟩ rfl ?_
    refine z_genW (B := fun H => z_Dl2 H b 0 mv (en + (1 : Int32)) wo br ∧ q_same h H b 2) ⟨z_Dl2.put0 sdl3 (mn' := 0) (hbmn := by omega), p3.trans (q_same.set (by omega) (by omega))⟩ (fun h4 hB => ?_)
    obtain ⟨sdl4, p4⟩ := hB
    refine q_iload_n dX2_end_29 rfl ?_
    refine q_if_eq 46 dX2_end_30 (by decide) (fun b30 => ?_) (fun b30 => ?_)
    · have b30 := z_b0n b30
      refine q_bipush (v := 111) dX2_end_46 rfl ?_
      have hE : x_dl_end mn en wo = (.inl 111, 0, en + (1 : Int32), wo) := by simp only [x_dl_end, x1, if_neg b30]
      rw [hE]
      exact q_ireturn dX2_end_48 rfl rfl (by omega) (by omega) ⟨rfl, sdl4, p4⟩
    · have b30 := z_b1 b30
      refine q_aload_n (by first | assumption | omega | decide) dX2_end_33 rfl ?_
      refine q_dup dX2_end_34 rfl ?_
      refine q_getf (k := 3) (v := .int (wo)) kC_X2 kL_X2_22 rfl (by decide) dX2_end_35 sdl4.c0 rfl ?_
      refine q_iconst (v := 1) dX2_end_38 rfl ?_
      refine q_iadd dX2_end_39 ?_
      refine q_putf (k := 3) kC_X2 kL_X2_22 rfl (by decide) rfl dX2_end_40 sdl4.c0 (Nat.le_of_ble_eq_true rfl) ⟨rfl, rfl⟩ rfl ?_
      refine z_genW (B := fun H => z_Dl2 H b 0 mv (en + (1 : Int32)) (wo + (1 : Int32)) br ∧ q_same h H b 2) ⟨z_Dl2.put0 sdl4 (mn' := 0) (hbmn := by omega), p4.trans (q_same.set (by omega) (by omega))⟩ (fun h5 hB => ?_)
      obtain ⟨sdl5, p5⟩ := hB
      refine q_bipush (v := 112) dX2_end_43 rfl ?_
      have hE : x_dl_end mn en wo = (.inl 112, 0, en + (1 : Int32), wo + (1 : Int32)) := by simp only [x_dl_end, x1, if_pos b30]
      rw [hE]
      exact q_ireturn dX2_end_45 rfl rfl (by omega) (by omega) ⟨rfl, sdl5, p5⟩
  · have e9 := e_dl_mustBeHeld (g := g) (h := h) (d := d - 1) sdl (by omega)
    rw [x1] at e9
    refine q_invV (mc' := 1) (ms' := 6) (d' := d - 1) (as := []) dX2_end_1 kM_X2_mustBeHeld kL_X2_49 kI_X2_mustBeHeld kS_X2_mustBeHeld rfl (kC_X2.1) sdl.c0 rfl rfl (Nat.le_of_ble_eq_true rfl) (by omega) (by decide) (by omega) (by omega) (e9) q_kT (q_xT ?_)
    have hE : x_dl_end mn en wo = (.inr e1, mn, en, wo) := by simp only [x_dl_end, x1]
    rw [hE]
    exact q_xout rfl ⟨rfl, sdl.keep (q_same.skip (a := 0) (k := 0)) (Or.inr (Nat.zero_le _)), p0.trans q_same.skip⟩ (by omega) (by omega)
def x_dl_breakOffIfMoved_2 (mv : Nat → Int32) (br : Int32) (xid : Int32) : Nat → Nat → (Unit) ⊕ ((Nat) × (Int32))
  | 0, _ => .inl ()
  | r + 1, k => (if (mv k) = (xid) then .inr (0, br + (1 : Int32)) else x_dl_breakOffIfMoved_2 mv br xid r (k + 1) )
set_option maxRecDepth 100000 in
set_option maxHeartbeats 8000000 in
theorem l_dl_breakOffIfMoved_2 {g : q_G} {h : q_H} {d mc ms kc ks : Nat} {Q : q_O → q_H → Prop} {b : Nat} {mn : Nat} {mv : Nat → Int32} {en : Int32} {wo : Int32} {br : Int32} {xid : Int32} (sdl : z_Dl2 h b mn mv en wo br) (p0 : q_same h h b 2)  (ho_dl_mn : mn ≤ 12)  (hd : 0 ≤ d) (hkc : kc + 0 ≤ mc) (hks : ks + 0 ≤ ms) : ∀ (r k : Nat)  (hk_2 : k + r = mn) (K : ∀ (_ : Unit), x_dl_breakOffIfMoved_2 mv br xid r k  = .inl () → q_W g mX2_breakOffIfMoved d mc ms Q kc ks 42 [q_u, q_u, q_u] [] h) (K2 : ∀ z, x_dl_breakOffIfMoved_2 mv br xid r k  = .inr z → ∀ o h1, q_chg (.inl none) (fun h1 => z_Dl2 h1 b z.1 mv en wo z.2 ∧ q_same h h1 b 2) o h1 → Q o h1), q_W g mX2_breakOffIfMoved d mc ms Q kc ks 2 [.ref (b), .int (xid), .int (nI (k))] [] h := by
  intro r
  induction r with
  | zero =>
    intro k   hk_2 K K2
    have hr_dl := sdl.r0
    have hb_dl_mn := sdl.bmn
    refine q_iload_n dX2_breakOffIfMoved_2 rfl ?_
    refine q_aload_n (by first | assumption | omega | decide) dX2_breakOffIfMoved_3 rfl ?_
    refine q_getf (k := 1) (v := .int (nI (mn))) kC_X2 kL_X2_15 rfl (by decide) dX2_breakOffIfMoved_4 sdl.c0 rfl ?_
    refine q_icmp_ge 42 dX2_breakOffIfMoved_7 (by decide) (fun b7 => ?_) (fun b7 => ?_)
    · have b7 := (nI_leI (a := mn) (b := k) (by omega) (by omega)).mp b7
      refine q_forget 0 ?_
      refine q_forget 1 ?_
      refine q_forget 2 ?_
      change q_W _ _ _ _ _ _ _ _ _ [q_u, q_u, q_u] [] _
      exact K () (by simp only [x_dl_breakOffIfMoved_2])
    · have b7 : ¬ (mn ≤ k) := fun q => b7 ((nI_leI (a := mn) (b := k) (by omega) (by omega)).mpr q)
      exact absurd b7 (by omega)
  | succ r ih =>
    intro k   hk_2 K K2
    have hr_dl := sdl.r0
    have hb_dl_mn := sdl.bmn
    refine q_iload_n dX2_breakOffIfMoved_2 rfl ?_
    refine q_aload_n (by first | assumption | omega | decide) dX2_breakOffIfMoved_3 rfl ?_
    refine q_getf (k := 1) (v := .int (nI (mn))) kC_X2 kL_X2_15 rfl (by decide) dX2_breakOffIfMoved_4 sdl.c0 rfl ?_
    refine q_icmp_ge 42 dX2_breakOffIfMoved_7 (by decide) (fun b7 => ?_) (fun b7 => ?_)
    · have b7 := (nI_leI (a := mn) (b := k) (by omega) (by omega)).mp b7
      exact absurd b7 (by omega)
    · have b7 : ¬ (mn ≤ k) := fun q => b7 ((nI_leI (a := mn) (b := k) (by omega) (by omega)).mpr q)
      refine q_aload_n (by first | assumption | omega | decide) dX2_breakOffIfMoved_10 rfl ?_
      refine q_getf (k := 0) (v := .ref (b + 1)) kC_X2 kL_X2_9 rfl (by decide) dX2_breakOffIfMoved_11 sdl.c0 rfl ?_
      refine q_iload_n dX2_breakOffIfMoved_14 rfl ?_
      refine q_ialdN (j := k) (f := mv) dX2_breakOffIfMoved_15 sdl.c1 (by omega) (by decide) ?_
      change q_W _ _ _ _ _ _ _ _ _ _ [.int (mv k)] _
      refine q_iload_n dX2_breakOffIfMoved_16 rfl ?_
      refine q_icmp_ne 36 dX2_breakOffIfMoved_17 (by decide) (fun b17 => ?_) (fun b17 => ?_)
      · refine q_iinc (x := nI (k)) (v := nI (k + 1)) dX2_breakOffIfMoved_36 rfl (nI_add _ 1) rfl ?_
        change q_W _ _ _ _ _ _ _ _ _ [.ref (b), .int (xid), .int (nI (k + 1))] [] _
        refine q_goto 2 dX2_breakOffIfMoved_39 (by decide) ?_
        change q_W _ _ _ _ _ _ _ _ _ [.ref (b), .int (xid), .int (nI (k + 1))] [] _
        exact ih (k + 1)  (by omega) (fun _ e9 => K () (by simp only [x_dl_breakOffIfMoved_2, if_neg b17]; exact e9)) (fun z9 e9 => K2 z9 (by simp only [x_dl_breakOffIfMoved_2, if_neg b17]; exact e9))
      · refine q_aload_n (by first | assumption | omega | decide) dX2_breakOffIfMoved_20 rfl ?_
        refine q_iconst (v := 0) dX2_breakOffIfMoved_21 rfl ?_
        refine q_putf (k := 1) kC_X2 kL_X2_15 rfl (by decide) rfl dX2_breakOffIfMoved_22 sdl.c0 (Nat.le_of_ble_eq_true rfl) ⟨rfl, rfl⟩ rfl ?_
        refine z_genW (B := fun H => z_Dl2 H b 0 mv en wo br ∧ q_same h H b 2) ⟨z_Dl2.put0 sdl (mn' := 0) (hbmn := by omega), p0.trans (q_same.set (by omega) (by omega))⟩ (fun h1 hB => ?_)
        obtain ⟨sdl1, p1⟩ := hB
        refine q_aload_n (by first | assumption | omega | decide) dX2_breakOffIfMoved_25 rfl ?_
        refine q_dup dX2_breakOffIfMoved_26 rfl ?_
        refine q_getf (k := 4) (v := .int (br)) kC_X2 kL_X2_25 rfl (by decide) dX2_breakOffIfMoved_27 sdl1.c0 rfl ?_
        refine q_iconst (v := 1) dX2_breakOffIfMoved_30 rfl ?_
        refine q_iadd dX2_breakOffIfMoved_31 ?_
        refine q_putf (k := 4) kC_X2 kL_X2_25 rfl (by decide) rfl dX2_breakOffIfMoved_32 sdl1.c0 (Nat.le_of_ble_eq_true rfl) ⟨rfl, rfl⟩ rfl ?_
        refine z_genW (B := fun H => z_Dl2 H b 0 mv en wo (br + (1 : Int32)) ∧ q_same h H b 2) ⟨z_Dl2.put0 sdl1 (mn' := 0) (hbmn := by omega), p1.trans (q_same.set (by omega) (by omega))⟩ (fun h2 hB => ?_)
        obtain ⟨sdl2, p2⟩ := hB
        exact q_return dX2_breakOffIfMoved_35 rfl (by omega) (by omega) (K2 (0, br + (1 : Int32)) (by simp only [x_dl_breakOffIfMoved_2, if_pos b17]) _ _ ⟨rfl, sdl2, p2⟩)
def x_dl_breakOffIfMoved (mn : Nat) (mv : Nat → Int32) (br : Int32) (xid : Int32) : (Nat) × (Int32) := (match x_dl_breakOffIfMoved_2 mv br xid mn 0 with | .inl () => (mn, br) | .inr zz => zz)
set_option maxRecDepth 100000 in
set_option maxHeartbeats 8000000 in
theorem e_dl_breakOffIfMoved {g : q_G} {h : q_H} {d : Nat} {b : Nat} {mn : Nat} {mv : Nat → Int32} {en : Int32} {wo : Int32} {br : Int32} (sdl : z_Dl2 h b mn mv en wo br) (xid : Int32)   (hd : 0 ≤ d) : q_Spec g mX2_breakOffIfMoved d 0 0 [.ref (b), .int (xid)] h (q_chg (.inl none) (fun h1 => z_Dl2 h1 b ((x_dl_breakOffIfMoved mn mv br xid).1) mv en wo ((x_dl_breakOffIfMoved mn mv br xid).2) ∧ q_same h h1 b 2)) := by
  have hr_dl := sdl.r0
  have hb_dl_mn := sdl.bmn
  have ho_dl_mn := sdl.bmn
  have p0 : q_same h h b 2 := q_same.rfl'
  refine q_enter (by decide +kernel) rfl rfl (Nat.le_of_ble_eq_true rfl) (fun hz => ?_)
  change q_W _ _ _ _ _ _ _ _ _ [.ref (b), .int (xid), q_u] [] _
  refine q_iconst (v := 0) dX2_breakOffIfMoved_0 rfl ?_
  refine q_istore_n dX2_breakOffIfMoved_1 (by decide) rfl ?_
  change q_W _ _ _ _ _ _ _ _ _ [.ref (b), .int (xid), .int (0)] [] _
  change q_W _ _ _ _ _ _ _ _ _ [.ref (b), .int (xid), .int (0)] [] _
  refine l_dl_breakOffIfMoved_2 sdl p0 ho_dl_mn (by omega) (by omega) (by omega) mn 0 (by omega) (fun _ x3 => ?_) (fun zz x3 => ?_)
  · change q_W _ _ _ _ _ _ _ _ 42 [q_u, q_u, q_u] [] _
    have hE : x_dl_breakOffIfMoved mn mv br xid = (mn, br) := by simp only [x_dl_breakOffIfMoved, x3]
    rw [hE]
    exact q_return dX2_breakOffIfMoved_42 rfl (by omega) (by omega) ⟨rfl, sdl, p0⟩
  · have hE : x_dl_breakOffIfMoved mn mv br xid = zz := by simp only [x_dl_breakOffIfMoved, x3]
    rw [hE]
    exact fun _ _ q9 => q9
