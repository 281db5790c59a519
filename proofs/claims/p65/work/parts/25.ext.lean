theorem x_all_nat {n : Nat} (h : n ≤ 8) : x_st_all n = nI (2 ^ n - 1) := by
  have q : ∀ n, n ≤ 8 → x_st_all n = nI (2 ^ n - 1) := by decide +kernel
  exact q n h
theorem z_pow8 {n : Nat} (h : n ≤ 8) : 2 ^ n ≤ 2 ^ 8 := Nat.pow_le_pow_right (by decide) h
theorem e_st_allN {g : q_G} {h : q_H} {d : Nat} {a : Nat} {n : Nat} {id : Nat → Int32} {wt : Nat → Int32} {ag : Nat → Int32} {tg : Nat → Int32} {att : Nat → Int32} {ni : Int32} {dy : Int32} {mn : Nat} {mv : Nat → Int32} {en : Int32} {wo : Int32} {br : Int32} (sst : z_S2 h a n id wt ag tg att ni dy mn mv en wo br) (hd : 0 ≤ d) : q_Spec g mX8_all d 0 0 [.ref a] h (q_ret (some (.int (nI (2 ^ n - 1)))) h) := by
  have e := e_st_all (g := g) (d := d) sst hd
  rw [x_all_nat sst.bn] at e
  exact e
def x_ex_attackersOf_4 (att : Nat → Int32) (xs : Int32) : Nat → Nat → (Int32) → (Int32)
  | 0, _, c4_2 => c4_2
  | r + 1, k, c4_2 => (if z_has xs k then x_ex_attackersOf_4 att xs r (k + 1) (c4_2 ||| (att k)) else x_ex_attackersOf_4 att xs r (k + 1) c4_2)
set_option maxRecDepth 100000 in
set_option maxHeartbeats 8000000 in
theorem l_ex_attackersOf_4 {g : q_G} {h : q_H} {d mc ms kc ks : Nat} {Q : q_O → q_H → Prop} {a : Nat} {n : Nat} {id : Nat → Int32} {wt : Nat → Int32} {ag : Nat → Int32} {tg : Nat → Int32} {att : Nat → Int32} {ni : Int32} {dy : Int32} {mn : Nat} {mv : Nat → Int32} {en : Int32} {wo : Int32} {br : Int32} {xs : Int32} (sst : z_S2 h a n id wt ag tg att ni dy mn mv en wo br)  (ho_st_n : n ≤ 8) (ho_st_mn : mn ≤ 12)  (hd : 1 ≤ d) (hkc : kc + 0 ≤ mc) (hks : ks + 0 ≤ ms) : ∀ (r k : Nat) (c4_2 : Int32) (hk_4 : k + r = n) (K : ∀ (r4_0 : Int32), x_ex_attackersOf_4 att xs r k c4_2 = r4_0 → q_W g mX3_attackersOf d mc ms Q kc ks 35 [q_u, q_u, .int (r4_0), q_u] [] h), q_W g mX3_attackersOf d mc ms Q kc ks 4 [.ref (a), .int (xs), .int (c4_2), .int (nI (k))] [] h := by
  intro r
  induction r with
  | zero =>
    intro k c4_2  hk_4 K
    have hr_st := sst.r0
    have hb_st_n := sst.bn
    have hb_st_mn := sst.bmn
    refine q_iload_n dX3_attackersOf_4 rfl ?_
    refine q_aload_n (by first | assumption | omega | decide) dX3_attackersOf_5 rfl ?_
    refine q_getf (k := 6) (v := .int (nI (n))) kC_X8 kL_X3_62 rfl (by decide) dX3_attackersOf_6 sst.c0 rfl ?_
    refine q_icmp_ge 35 dX3_attackersOf_9 (by decide) (fun b9 => ?_) (fun b9 => ?_)
    · have b9 := (nI_leI (a := n) (b := k) (by omega) (by omega)).mp b9
      refine q_forget 0 ?_
      refine q_forget 1 ?_
      refine q_forget 3 ?_
      change q_W _ _ _ _ _ _ _ _ _ [q_u, q_u, .int (c4_2), q_u] [] _
      exact K c4_2 (by simp only [x_ex_attackersOf_4])
    · have b9 : ¬ (n ≤ k) := fun q => b9 ((nI_leI (a := n) (b := k) (by omega) (by omega)).mpr q)
      exact absurd b9 (by omega)
  | succ r ih =>
    intro k c4_2  hk_4 K
    have hr_st := sst.r0
    have hb_st_n := sst.bn
    have hb_st_mn := sst.bmn
    refine q_iload_n dX3_attackersOf_4 rfl ?_
    refine q_aload_n (by first | assumption | omega | decide) dX3_attackersOf_5 rfl ?_
    refine q_getf (k := 6) (v := .int (nI (n))) kC_X8 kL_X3_62 rfl (by decide) dX3_attackersOf_6 sst.c0 rfl ?_
    refine q_icmp_ge 35 dX3_attackersOf_9 (by decide) (fun b9 => ?_) (fun b9 => ?_)
    · have b9 := (nI_leI (a := n) (b := k) (by omega) (by omega)).mp b9
      exact absurd b9 (by omega)
    · have b9 : ¬ (n ≤ k) := fun q => b9 ((nI_leI (a := n) (b := k) (by omega) (by omega)).mpr q)
      refine q_iload_n dX3_attackersOf_12 rfl ?_
      refine q_iload_n dX3_attackersOf_13 rfl ?_
      refine q_invSN (mc' := 0) (ms' := 0) (d' := d - 1) (as := [.int (xs), .int (nI (k))]) dX3_attackersOf_14 kM_X10_has kN_X3_59 kT_X10_has rfl rfl rfl (Nat.le_of_ble_eq_true rfl) (by omega) (by decide) (by omega) (by omega) (e_has (d := d - 1)) (q_kR ?_) q_xR
      change q_W _ _ _ _ _ _ _ _ 17 [.ref (a), .int (xs), .int (c4_2), .int (nI (k))] [.int (z_b (z_has xs k))] _
      refine q_if_eq 29 dX3_attackersOf_17 (by decide) (fun b17 => ?_) (fun b17 => ?_)
      · have b17 := z_b0n b17
        refine q_iinc (x := nI (k)) (v := nI (k + 1)) dX3_attackersOf_29 rfl (nI_add _ 1) rfl ?_
        change q_W _ _ _ _ _ _ _ _ _ [.ref (a), .int (xs), .int (c4_2), .int (nI (k + 1))] [] _
        refine q_goto 4 dX3_attackersOf_32 (by decide) ?_
        change q_W _ _ _ _ _ _ _ _ _ [.ref (a), .int (xs), .int (c4_2), .int (nI (k + 1))] [] _
        exact ih (k + 1) c4_2 (by omega) (fun r4_0 e9 => K r4_0 (by simp only [x_ex_attackersOf_4, if_neg b17]; exact e9))
      · have b17 := z_b1 b17
        refine q_iload_n dX3_attackersOf_20 rfl ?_
        refine q_aload_n (by first | assumption | omega | decide) dX3_attackersOf_21 rfl ?_
        refine q_getf (k := 4) (v := .ref (a + 5)) kC_X8 kL_X3_65 rfl (by decide) dX3_attackersOf_22 sst.c0 rfl ?_
        refine q_iload_n dX3_attackersOf_25 rfl ?_
        refine q_ialdN (j := k) (f := att) dX3_attackersOf_26 sst.c5 (by omega) (by decide) ?_
        change q_W _ _ _ _ _ _ _ _ _ _ [.int (att k), .int (c4_2)] _
        refine q_ior dX3_attackersOf_27 ?_
        refine q_istore_n dX3_attackersOf_28 (by decide) rfl ?_
        change q_W _ _ _ _ _ _ _ _ _ [.ref (a), .int (xs), .int (c4_2 ||| (att k)), .int (nI (k))] [] _
        refine q_iinc (x := nI (k)) (v := nI (k + 1)) dX3_attackersOf_29 rfl (nI_add _ 1) rfl ?_
        change q_W _ _ _ _ _ _ _ _ _ [.ref (a), .int (xs), .int (c4_2 ||| (att k)), .int (nI (k + 1))] [] _
        refine q_goto 4 dX3_attackersOf_32 (by decide) ?_
        change q_W _ _ _ _ _ _ _ _ _ [.ref (a), .int (xs), .int (c4_2 ||| (att k)), .int (nI (k + 1))] [] _
        exact ih (k + 1) (c4_2 ||| (att k)) (by omega) (fun r4_0 e9 => K r4_0 (by simp only [x_ex_attackersOf_4, if_pos b17]; exact e9))
def x_ex_attackersOf (n : Nat) (att : Nat → Int32) (xs : Int32) : Int32 := (let a1_0 := x_ex_attackersOf_4 att xs n 0 0; a1_0)
set_option maxRecDepth 100000 in
set_option maxHeartbeats 8000000 in
theorem e_ex_attackersOf {g : q_G} {h : q_H} {d : Nat} {a : Nat} {n : Nat} {id : Nat → Int32} {wt : Nat → Int32} {ag : Nat → Int32} {tg : Nat → Int32} {att : Nat → Int32} {ni : Int32} {dy : Int32} {mn : Nat} {mv : Nat → Int32} {en : Int32} {wo : Int32} {br : Int32} (sst : z_S2 h a n id wt ag tg att ni dy mn mv en wo br)  (xs : Int32)   (hd : 1 ≤ d) : q_Spec g mX3_attackersOf d 0 0 [.ref (a), .int (xs)] h (q_ret ((some (.int (x_ex_attackersOf n att xs)))) h) := by
  have hr_st := sst.r0
  have hb_st_n := sst.bn
  have hb_st_mn := sst.bmn
  have ho_st_n := sst.bn
  have ho_st_mn := sst.bmn
  refine q_enter (by decide +kernel) rfl rfl (Nat.le_of_ble_eq_true rfl) (fun hz => ?_)
  change q_W _ _ _ _ _ _ _ _ _ [.ref (a), .int (xs), q_u, q_u] [] _
  refine q_iconst (v := 0) dX3_attackersOf_0 rfl ?_
  refine q_istore_n dX3_attackersOf_1 (by decide) rfl ?_
  change q_W _ _ _ _ _ _ _ _ _ [.ref (a), .int (xs), .int (0), q_u] [] _
  refine q_iconst (v := 0) dX3_attackersOf_2 rfl ?_
  refine q_istore_n dX3_attackersOf_3 (by decide) rfl ?_
  change q_W _ _ _ _ _ _ _ _ _ [.ref (a), .int (xs), .int (0), .int (0)] [] _
  change q_W _ _ _ _ _ _ _ _ _ [.ref (a), .int (xs), .int (0), .int (0)] [] _
  refine l_ex_attackersOf_4 sst ho_st_n ho_st_mn (by omega) (by omega) (by omega) n 0 0 (by omega) (fun a1_0 x1 => ?_)
  change q_W _ _ _ _ _ _ _ _ 35 [q_u, q_u, .int (a1_0), q_u] [] _
  refine q_iload_n dX3_attackersOf_35 rfl ?_
  have hE : x_ex_attackersOf n att xs = a1_0 := by simp only [x_ex_attackersOf, x1]
  rw [hE]
  exact q_ireturn dX3_attackersOf_36 rfl rfl (by omega) (by omega) ⟨rfl, rfl⟩
def x_ex_isFree (n : Nat) (att : Nat → Int32) (xs : Int32) : Bool := (if ((x_ex_attackersOf n att xs) &&& xs) = (0) then true else false)
set_option maxRecDepth 100000 in
set_option maxHeartbeats 8000000 in
theorem e_ex_isFree {g : q_G} {h : q_H} {d : Nat} {a : Nat} {n : Nat} {id : Nat → Int32} {wt : Nat → Int32} {ag : Nat → Int32} {tg : Nat → Int32} {att : Nat → Int32} {ni : Int32} {dy : Int32} {mn : Nat} {mv : Nat → Int32} {en : Int32} {wo : Int32} {br : Int32} (sst : z_S2 h a n id wt ag tg att ni dy mn mv en wo br)  (xs : Int32)   (hd : 2 ≤ d) : q_Spec g mX3_isFree d 0 0 [.ref (a), .int (xs)] h (q_ret ((some (.int (z_b (x_ex_isFree n att xs))))) h) := by
  have hr_st := sst.r0
  have hb_st_n := sst.bn
  have hb_st_mn := sst.bmn
  have ho_st_n := sst.bn
  have ho_st_mn := sst.bmn
  refine q_enter (by decide +kernel) rfl rfl (Nat.le_of_ble_eq_true rfl) (fun hz => ?_)
  change q_W _ _ _ _ _ _ _ _ _ [.ref (a), .int (xs)] [] _
  refine q_aload_n (by first | assumption | omega | decide) dX3_isFree_0 rfl ?_
  refine q_iload_n dX3_isFree_1 rfl ?_
  refine q_invS (mc' := 0) (ms' := 0) (d' := d - 1) (as := [.ref (a), .int (xs)]) dX3_isFree_2 kM_X3_attackersOf kL_X3_69 kT_X3_attackersOf rfl rfl rfl (Nat.le_of_ble_eq_true rfl) (by omega) (by decide) (by omega) (by omega) (e_ex_attackersOf (d := d - 1) sst xs (by omega)) (q_kR ?_) q_xR
  change q_W _ _ _ _ _ _ _ _ 5 [.ref (a), .int (xs)] [.int (x_ex_attackersOf n att xs)] _
  refine q_iload_n dX3_isFree_5 rfl ?_
  refine q_iand dX3_isFree_6 ?_
  refine q_if_ne 14 dX3_isFree_7 (by decide) (fun b7 => ?_) (fun b7 => ?_)
  · refine q_iconst (v := 0) dX3_isFree_14 rfl ?_
    have hE : x_ex_isFree n att xs = false := by simp only [x_ex_isFree, if_neg b7]
    rw [hE]
    exact q_ireturn dX3_isFree_15 rfl rfl (by omega) (by omega) ⟨rfl, rfl⟩
  · refine q_iconst (v := 1) dX3_isFree_10 rfl ?_
    refine q_goto 15 dX3_isFree_11 (by decide) ?_
    have hE : x_ex_isFree n att xs = true := by simp only [x_ex_isFree, if_pos b7]
    rw [hE]
    exact q_ireturn dX3_isFree_15 rfl rfl (by omega) (by omega) ⟨rfl, rfl⟩
def x_ex_isAttackedBy_2 (att : Nat → Int32) (xs : Int32) (xb : Int32) : Nat → Nat → (Unit) ⊕ (Bool)
  | 0, _ => .inl ()
  | r + 1, k => (if z_has xs k then (if ((att k) &&& xb) = (0) then .inr false else x_ex_isAttackedBy_2 att xs xb r (k + 1) ) else x_ex_isAttackedBy_2 att xs xb r (k + 1) )
set_option maxRecDepth 100000 in
set_option maxHeartbeats 8000000 in
theorem l_ex_isAttackedBy_2 {g : q_G} {h : q_H} {d mc ms kc ks : Nat} {Q : q_O → q_H → Prop} {a : Nat} {n : Nat} {id : Nat → Int32} {wt : Nat → Int32} {ag : Nat → Int32} {tg : Nat → Int32} {att : Nat → Int32} {ni : Int32} {dy : Int32} {mn : Nat} {mv : Nat → Int32} {en : Int32} {wo : Int32} {br : Int32} {xs : Int32} {xb : Int32} (sst : z_S2 h a n id wt ag tg att ni dy mn mv en wo br)  (ho_st_n : n ≤ 8) (ho_st_mn : mn ≤ 12)  (hd : 1 ≤ d) (hkc : kc + 0 ≤ mc) (hks : ks + 0 ≤ ms) : ∀ (r k : Nat)  (hk_2 : k + r = n) (K : ∀ (_ : Unit), x_ex_isAttackedBy_2 att xs xb r k  = .inl () → q_W g mX3_isAttackedBy d mc ms Q kc ks 37 [q_u, q_u, q_u, q_u] [] h) (K2 : ∀ z, x_ex_isAttackedBy_2 att xs xb r k  = .inr z → ∀ o h1, q_ret ((some (.int (z_b z)))) h o h1 → Q o h1), q_W g mX3_isAttackedBy d mc ms Q kc ks 2 [.ref (a), .int (xs), .int (xb), .int (nI (k))] [] h := by
  intro r
  induction r with
  | zero =>
    intro k   hk_2 K K2
    have hr_st := sst.r0
    have hb_st_n := sst.bn
    have hb_st_mn := sst.bmn
    refine q_iload_n dX3_isAttackedBy_2 rfl ?_
    refine q_aload_n (by first | assumption | omega | decide) dX3_isAttackedBy_3 rfl ?_
    refine q_getf (k := 6) (v := .int (nI (n))) kC_X8 kL_X3_62 rfl (by decide) dX3_isAttackedBy_4 sst.c0 rfl ?_
    refine q_icmp_ge 37 dX3_isAttackedBy_7 (by decide) (fun b7 => ?_) (fun b7 => ?_)
    · have b7 := (nI_leI (a := n) (b := k) (by omega) (by omega)).mp b7
      refine q_forget 0 ?_
      refine q_forget 1 ?_
      refine q_forget 2 ?_
      refine q_forget 3 ?_
      change q_W _ _ _ _ _ _ _ _ _ [q_u, q_u, q_u, q_u] [] _
      exact K () (by simp only [x_ex_isAttackedBy_2])
    · have b7 : ¬ (n ≤ k) := fun q => b7 ((nI_leI (a := n) (b := k) (by omega) (by omega)).mpr q)
      exact absurd b7 (by omega)
  | succ r ih =>
    intro k   hk_2 K K2
    have hr_st := sst.r0
    have hb_st_n := sst.bn
    have hb_st_mn := sst.bmn
    refine q_iload_n dX3_isAttackedBy_2 rfl ?_
    refine q_aload_n (by first | assumption | omega | decide) dX3_isAttackedBy_3 rfl ?_
    refine q_getf (k := 6) (v := .int (nI (n))) kC_X8 kL_X3_62 rfl (by decide) dX3_isAttackedBy_4 sst.c0 rfl ?_
    refine q_icmp_ge 37 dX3_isAttackedBy_7 (by decide) (fun b7 => ?_) (fun b7 => ?_)
    · have b7 := (nI_leI (a := n) (b := k) (by omega) (by omega)).mp b7
      exact absurd b7 (by omega)
    · have b7 : ¬ (n ≤ k) := fun q => b7 ((nI_leI (a := n) (b := k) (by omega) (by omega)).mpr q)
      refine q_iload_n dX3_isAttackedBy_10 rfl ?_
      refine q_iload_n dX3_isAttackedBy_11 rfl ?_
      refine q_invSN (mc' := 0) (ms' := 0) (d' := d - 1) (as := [.int (xs), .int (nI (k))]) dX3_isAttackedBy_12 kM_X10_has kN_X3_59 kT_X10_has rfl rfl rfl (Nat.le_of_ble_eq_true rfl) (by omega) (by decide) (by omega) (by omega) (e_has (d := d - 1)) (q_kR ?_) q_xR
      change q_W _ _ _ _ _ _ _ _ 15 [.ref (a), .int (xs), .int (xb), .int (nI (k))] [.int (z_b (z_has xs k))] _
      refine q_if_eq 31 dX3_isAttackedBy_15 (by decide) (fun b15 => ?_) (fun b15 => ?_)
      · have b15 := z_b0n b15
        refine q_iinc (x := nI (k)) (v := nI (k + 1)) dX3_isAttackedBy_31 rfl (nI_add _ 1) rfl ?_
        change q_W _ _ _ _ _ _ _ _ _ [.ref (a), .int (xs), .int (xb), .int (nI (k + 1))] [] _
        refine q_goto 2 dX3_isAttackedBy_34 (by decide) ?_
        change q_W _ _ _ _ _ _ _ _ _ [.ref (a), .int (xs), .int (xb), .int (nI (k + 1))] [] _
        exact ih (k + 1)  (by omega) (fun _ e9 => K () (by simp only [x_ex_isAttackedBy_2, if_neg b15]; exact e9)) (fun z9 e9 => K2 z9 (by simp only [x_ex_isAttackedBy_2, if_neg b15]; exact e9))
      · have b15 := z_b1 b15
        refine q_aload_n (by first | assumption | omega | decide) dX3_isAttackedBy_18 rfl ?_
        refine q_getf (k := 4) (v := .ref (a + 5)) kC_X8 kL_X3_65 rfl (by decide) dX3_isAttackedBy_19 sst.c0 rfl ?_
        refine q_iload_n dX3_isAttackedBy_22 rfl ?_
        refine q_ialdN (j := k) (f := att) dX3_isAttackedBy_23 sst.c5 (by omega) (by decide) ?_
        change q_W _ _ _ _ _ _ _ _ _ _ [.int (att k)] _
        refine q_iload_n dX3_isAttackedBy_24 rfl ?_
        refine q_iand dX3_isAttackedBy_25 ?_
        refine q_if_ne 31 dX3_isAttackedBy_26 (by decide) (fun b26 => ?_) (fun b26 => ?_)
        · refine q_iinc (x := nI (k)) (v := nI (k + 1)) dX3_isAttackedBy_31 rfl (nI_add _ 1) rfl ?_
          change q_W _ _ _ _ _ _ _ _ _ [.ref (a), .int (xs), .int (xb), .int (nI (k + 1))] [] _
          refine q_goto 2 dX3_isAttackedBy_34 (by decide) ?_
          change q_W _ _ _ _ _ _ _ _ _ [.ref (a), .int (xs), .int (xb), .int (nI (k + 1))] [] _
          exact ih (k + 1)  (by omega) (fun _ e9 => K () (by simp only [x_ex_isAttackedBy_2, if_pos b15, if_neg b26]; exact e9)) (fun z9 e9 => K2 z9 (by simp only [x_ex_isAttackedBy_2, if_pos b15, if_neg b26]; exact e9))
        · refine q_iconst (v := 0) dX3_isAttackedBy_29 rfl ?_
          exact q_ireturn dX3_isAttackedBy_30 rfl rfl (by omega) (by omega) (K2 false (by simp only [x_ex_isAttackedBy_2, if_pos b15, if_pos b26]) _ _ ⟨rfl, rfl⟩)
def x_ex_isAttackedBy (n : Nat) (att : Nat → Int32) (xs : Int32) (xb : Int32) : Bool := (match x_ex_isAttackedBy_2 att xs xb n 0 with | .inl () => true | .inr zz => zz)
set_option maxRecDepth 100000 in
set_option maxHeartbeats 8000000 in
theorem e_ex_isAttackedBy {g : q_G} {h : q_H} {d : Nat} {a : Nat} {n : Nat} {id : Nat → Int32} {wt : Nat → Int32} {ag : Nat → Int32} {tg : Nat → Int32} {att : Nat → Int32} {ni : Int32} {dy : Int32} {mn : Nat} {mv : Nat → Int32} {en : Int32} {wo : Int32} {br : Int32} (sst : z_S2 h a n id wt ag tg att ni dy mn mv en wo br)  (xs : Int32) (xb : Int32)   (hd : 1 ≤ d) : q_Spec g mX3_isAttackedBy d 0 0 [.ref (a), .int (xs), .int (xb)] h (q_ret ((some (.int (z_b (x_ex_isAttackedBy n att xs xb))))) h) := by
  have hr_st := sst.r0
  have hb_st_n := sst.bn
  have hb_st_mn := sst.bmn
  have ho_st_n := sst.bn
  have ho_st_mn := sst.bmn
  refine q_enter (by decide +kernel) rfl rfl (Nat.le_of_ble_eq_true rfl) (fun hz => ?_)
  change q_W _ _ _ _ _ _ _ _ _ [.ref (a), .int (xs), .int (xb), q_u] [] _
  refine q_iconst (v := 0) dX3_isAttackedBy_0 rfl ?_
  refine q_istore_n dX3_isAttackedBy_1 (by decide) rfl ?_
  change q_W _ _ _ _ _ _ _ _ _ [.ref (a), .int (xs), .int (xb), .int (0)] [] _
  change q_W _ _ _ _ _ _ _ _ _ [.ref (a), .int (xs), .int (xb), .int (0)] [] _
  refine l_ex_isAttackedBy_2 sst ho_st_n ho_st_mn (by omega) (by omega) (by omega) n 0 (by omega) (fun _ x1 => ?_) (fun zz x1 => ?_)
  · change q_W _ _ _ _ _ _ _ _ 37 [q_u, q_u, q_u, q_u] [] _
    refine q_iconst (v := 1) dX3_isAttackedBy_37 rfl ?_
    have hE : x_ex_isAttackedBy n att xs xb = true := by simp only [x_ex_isAttackedBy, x1]
    rw [hE]
    exact q_ireturn dX3_isAttackedBy_38 rfl rfl (by omega) (by omega) ⟨rfl, rfl⟩
  · have hE : x_ex_isAttackedBy n att xs xb = zz := by simp only [x_ex_isAttackedBy, x1]
    rw [hE]
    exact fun _ _ q9 => q9
def x_ex_isAdmissible (n : Nat) (att : Nat → Int32) (xs : Int32) : Bool := (if ((x_ex_attackersOf n att xs) &&& xs) = (0) then (if x_ex_isAttackedBy n att (x_ex_attackersOf n att xs) xs then true else false) else false)
set_option maxRecDepth 100000 in
set_option maxHeartbeats 8000000 in
theorem e_ex_isAdmissible {g : q_G} {h : q_H} {d : Nat} {a : Nat} {n : Nat} {id : Nat → Int32} {wt : Nat → Int32} {ag : Nat → Int32} {tg : Nat → Int32} {att : Nat → Int32} {ni : Int32} {dy : Int32} {mn : Nat} {mv : Nat → Int32} {en : Int32} {wo : Int32} {br : Int32} (sst : z_S2 h a n id wt ag tg att ni dy mn mv en wo br)  (xs : Int32)   (hd : 2 ≤ d) : q_Spec g mX3_isAdmissible d 0 0 [.ref (a), .int (xs)] h (q_ret ((some (.int (z_b (x_ex_isAdmissible n att xs))))) h) := by
  have hr_st := sst.r0
  have hb_st_n := sst.bn
  have hb_st_mn := sst.bmn
  have ho_st_n := sst.bn
  have ho_st_mn := sst.bmn
  refine q_enter (by decide +kernel) rfl rfl (Nat.le_of_ble_eq_true rfl) (fun hz => ?_)
  change q_W _ _ _ _ _ _ _ _ _ [.ref (a), .int (xs), q_u] [] _
  refine q_aload_n (by first | assumption | omega | decide) dX3_isAdmissible_0 rfl ?_
  refine q_iload_n dX3_isAdmissible_1 rfl ?_
  refine q_invS (mc' := 0) (ms' := 0) (d' := d - 1) (as := [.ref (a), .int (xs)]) dX3_isAdmissible_2 kM_X3_attackersOf kL_X3_69 kT_X3_attackersOf rfl rfl rfl (Nat.le_of_ble_eq_true rfl) (by omega) (by decide) (by omega) (by omega) (e_ex_attackersOf (d := d - 1) sst xs (by omega)) (q_kR ?_) q_xR
  change q_W _ _ _ _ _ _ _ _ 5 [.ref (a), .int (xs), q_u] [.int (x_ex_attackersOf n att xs)] _
  refine q_istore_n dX3_isAdmissible_5 (by decide) rfl ?_
  change q_W _ _ _ _ _ _ _ _ _ [.ref (a), .int (xs), .int (x_ex_attackersOf n att xs)] [] _
  refine q_iload_n dX3_isAdmissible_6 rfl ?_
  refine q_iload_n dX3_isAdmissible_7 rfl ?_
  refine q_iand dX3_isAdmissible_8 ?_
  refine q_if_ne 25 dX3_isAdmissible_9 (by decide) (fun b9 => ?_) (fun b9 => ?_)
  · refine q_iconst (v := 0) dX3_isAdmissible_25 rfl ?_
    have hE : x_ex_isAdmissible n att xs = false := by simp only [x_ex_isAdmissible, if_neg b9]
    rw [hE]
    exact q_ireturn dX3_isAdmissible_26 rfl rfl (by omega) (by omega) ⟨rfl, rfl⟩
  · refine q_aload_n (by first | assumption | omega | decide) dX3_isAdmissible_12 rfl ?_
    refine q_iload_n dX3_isAdmissible_13 rfl ?_
    refine q_iload_n dX3_isAdmissible_14 rfl ?_
    refine q_invS (mc' := 0) (ms' := 0) (d' := d - 1) (as := [.ref (a), .int (x_ex_attackersOf n att xs), .int (xs)]) dX3_isAdmissible_15 kM_X3_isAttackedBy kL_X3_32 kT_X3_isAttackedBy rfl rfl rfl (Nat.le_of_ble_eq_true rfl) (by omega) (by decide) (by omega) (by omega) (e_ex_isAttackedBy (d := d - 1) sst (x_ex_attackersOf n att xs) xs (by omega)) (q_kR ?_) q_xR
    change q_W _ _ _ _ _ _ _ _ 18 [.ref (a), .int (xs), .int (x_ex_attackersOf n att xs)] [.int (z_b (x_ex_isAttackedBy n att (x_ex_attackersOf n att xs) xs))] _
    refine q_if_eq 25 dX3_isAdmissible_18 (by decide) (fun b18 => ?_) (fun b18 => ?_)
    · have b18 := z_b0n b18
      refine q_iconst (v := 0) dX3_isAdmissible_25 rfl ?_
      have hE : x_ex_isAdmissible n att xs = false := by simp only [x_ex_isAdmissible, if_pos b9, if_neg b18]
      rw [hE]
      exact q_ireturn dX3_isAdmissible_26 rfl rfl (by omega) (by omega) ⟨rfl, rfl⟩
    · have b18 := z_b1 b18
      refine q_iconst (v := 1) dX3_isAdmissible_21 rfl ?_
      refine q_goto 26 dX3_isAdmissible_22 (by decide) ?_
      have hE : x_ex_isAdmissible n att xs = true := by simp only [x_ex_isAdmissible, if_pos b9, if_pos b18]
      rw [hE]
      exact q_ireturn dX3_isAdmissible_26 rfl rfl (by omega) (by omega) ⟨rfl, rfl⟩
def x_ex_countStable_10 (n : Nat) (att : Nat → Int32) : Nat → Nat → (Int32) → (Int32)
  | 0, _, c10_2 => c10_2
  | r + 1, k, c10_2 => (if x_ex_isFree n att (nI (k)) then (if x_ex_isAttackedBy n att ((nI (2 ^ n - 1)) &&& ((nI (k)) ^^^ (-1 : Int32))) (nI (k)) then x_ex_countStable_10 n att r (k + 1) (c10_2 + (1)) else x_ex_countStable_10 n att r (k + 1) c10_2) else x_ex_countStable_10 n att r (k + 1) c10_2)
set_option maxRecDepth 100000 in
set_option maxHeartbeats 8000000 in
theorem l_ex_countStable_10 {g : q_G} {h : q_H} {d mc ms kc ks : Nat} {Q : q_O → q_H → Prop} {x : Nat} {pf : Nat → Int32} {cv : Nat → Int32} {sc : Nat} {a : Nat} {n : Nat} {id : Nat → Int32} {wt : Nat → Int32} {ag : Nat → Int32} {tg : Nat → Int32} {att : Nat → Int32} {ni : Int32} {dy : Int32} {mn : Nat} {mv : Nat → Int32} {en : Int32} {wo : Int32} {br : Int32} (sex : z_Ex h x pf cv sc) (sst : z_S2 h a n id wt ag tg att ni dy mn mv en wo br)  (ho_ex_sc : sc ≤ 256) (ho_st_n : n ≤ 8) (ho_st_mn : mn ≤ 12) (g1_2 : 2 ^ n ≤ 2 ^ 8) (g1_2p : 1 ≤ 2 ^ n)  (hd : 3 ≤ d) (hkc : kc + 0 ≤ mc) (hks : ks + 0 ≤ ms) : ∀ (r k : Nat) (c10_2 : Int32) (hk_10 : k + r = 2 ^ n - 1 + 1) (K : ∀ (r10_0 : Int32), x_ex_countStable_10 n att r k c10_2 = r10_0 → q_W g mX3_countStable d mc ms Q kc ks 49 [q_u, q_u, .int (r10_0), q_u, q_u] [] h), q_W g mX3_countStable d mc ms Q kc ks 10 [q_u, .ref (a), .int (c10_2), .int (nI (2 ^ n - 1)), .int (nI (k))] [] h := by
  intro r
  induction r with
  | zero =>
    intro k c10_2  hk_10 K
    have hr_ex := sex.r0
    have hb_ex_sc := sex.bsc
    have hr_st := sst.r0
    have hb_st_n := sst.bn
    have hb_st_mn := sst.bmn
    refine q_iload dX3_countStable_10 rfl ?_
    refine q_iload_n dX3_countStable_12 rfl ?_
    refine q_icmp_gt 49 dX3_countStable_13 (by decide) (fun b13 => ?_) (fun b13 => ?_)
    · have b13 := (nI_ltI (a := 2 ^ n - 1) (b := k) (by omega) (by omega)).mp b13
      refine q_forget 1 ?_
      refine q_forget 3 ?_
      refine q_forget 4 ?_
      change q_W _ _ _ _ _ _ _ _ _ [q_u, q_u, .int (c10_2), q_u, q_u] [] _
      exact K c10_2 (by simp only [x_ex_countStable_10])
    · have b13 : ¬ (2 ^ n - 1 < k) := fun q => b13 ((nI_ltI (a := 2 ^ n - 1) (b := k) (by omega) (by omega)).mpr q)
      exact absurd b13 (by omega)
  | succ r ih =>
    intro k c10_2  hk_10 K
    have hr_ex := sex.r0
    have hb_ex_sc := sex.bsc
    have hr_st := sst.r0
    have hb_st_n := sst.bn
    have hb_st_mn := sst.bmn
    refine q_iload dX3_countStable_10 rfl ?_
    refine q_iload_n dX3_countStable_12 rfl ?_
    refine q_icmp_gt 49 dX3_countStable_13 (by decide) (fun b13 => ?_) (fun b13 => ?_)
    · have b13 := (nI_ltI (a := 2 ^ n - 1) (b := k) (by omega) (by omega)).mp b13
      exact absurd b13 (by omega)
    · have b13 : ¬ (2 ^ n - 1 < k) := fun q => b13 ((nI_ltI (a := 2 ^ n - 1) (b := k) (by omega) (by omega)).mpr q)
      refine q_aload_n (by first | assumption | omega | decide) dX3_countStable_16 rfl ?_
      refine q_iload dX3_countStable_17 rfl ?_
      refine q_invS (mc' := 0) (ms' := 0) (d' := d - 1) (as := [.ref (a), .int (nI (k))]) dX3_countStable_19 kM_X3_isFree kL_X3_28 kT_X3_isFree rfl rfl rfl (Nat.le_of_ble_eq_true rfl) (by omega) (by decide) (by omega) (by omega) (e_ex_isFree (d := d - 1) sst (nI (k)) (by omega)) (q_kR ?_) q_xR
      change q_W _ _ _ _ _ _ _ _ 22 [q_u, .ref (a), .int (c10_2), .int (nI (2 ^ n - 1)), .int (nI (k))] [.int (z_b (x_ex_isFree n att (nI (k))))] _
      refine q_if_eq 43 dX3_countStable_22 (by decide) (fun b22 => ?_) (fun b22 => ?_)
      · have b22 := z_b0n b22
        refine q_iinc (x := nI (k)) (v := nI (k + 1)) dX3_countStable_43 rfl (nI_add _ 1) rfl ?_
        change q_W _ _ _ _ _ _ _ _ _ [q_u, .ref (a), .int (c10_2), .int (nI (2 ^ n - 1)), .int (nI (k + 1))] [] _
        refine q_goto 10 dX3_countStable_46 (by decide) ?_
        change q_W _ _ _ _ _ _ _ _ _ [q_u, .ref (a), .int (c10_2), .int (nI (2 ^ n - 1)), .int (nI (k + 1))] [] _
        exact ih (k + 1) c10_2 (by omega) (fun r10_0 e9 => K r10_0 (by simp only [x_ex_countStable_10, if_neg b22]; exact e9))
      · have b22 := z_b1 b22
        refine q_aload_n (by first | assumption | omega | decide) dX3_countStable_25 rfl ?_
        refine q_iload_n dX3_countStable_26 rfl ?_
        refine q_iload dX3_countStable_27 rfl ?_
        refine q_iconst (v := -1) dX3_countStable_29 rfl ?_
        refine q_ixor dX3_countStable_30 ?_
        refine q_iand dX3_countStable_31 ?_
        refine q_iload dX3_countStable_32 rfl ?_
        refine q_invS (mc' := 0) (ms' := 0) (d' := d - 1) (as := [.ref (a), .int ((nI (2 ^ n - 1)) &&& ((nI (k)) ^^^ (-1 : Int32))), .int (nI (k))]) dX3_countStable_34 kM_X3_isAttackedBy kL_X3_32 kT_X3_isAttackedBy rfl rfl rfl (Nat.le_of_ble_eq_true rfl) (by omega) (by decide) (by omega) (by omega) (e_ex_isAttackedBy (d := d - 1) sst ((nI (2 ^ n - 1)) &&& ((nI (k)) ^^^ (-1 : Int32))) (nI (k)) (by omega)) (q_kR ?_) q_xR
        change q_W _ _ _ _ _ _ _ _ 37 [q_u, .ref (a), .int (c10_2), .int (nI (2 ^ n - 1)), .int (nI (k))] [.int (z_b (x_ex_isAttackedBy n att ((nI (2 ^ n - 1)) &&& ((nI (k)) ^^^ (-1 : Int32))) (nI (k))))] _
        refine q_if_eq 43 dX3_countStable_37 (by decide) (fun b37 => ?_) (fun b37 => ?_)
        · have b37 := z_b0n b37
          refine q_iinc (x := nI (k)) (v := nI (k + 1)) dX3_countStable_43 rfl (nI_add _ 1) rfl ?_
          change q_W _ _ _ _ _ _ _ _ _ [q_u, .ref (a), .int (c10_2), .int (nI (2 ^ n - 1)), .int (nI (k + 1))] [] _
          refine q_goto 10 dX3_countStable_46 (by decide) ?_
          change q_W _ _ _ _ _ _ _ _ _ [q_u, .ref (a), .int (c10_2), .int (nI (2 ^ n - 1)), .int (nI (k + 1))] [] _
          exact ih (k + 1) c10_2 (by omega) (fun r10_0 e9 => K r10_0 (by simp only [x_ex_countStable_10, if_pos b22, if_neg b37]; exact e9))
        · have b37 := z_b1 b37
          refine q_iinc (x := c10_2) (v := c10_2 + (1)) dX3_countStable_40 rfl rfl rfl ?_
          change q_W _ _ _ _ _ _ _ _ _ [q_u, .ref (a), .int (c10_2 + (1)), .int (nI (2 ^ n - 1)), .int (nI (k))] [] _
          refine q_iinc (x := nI (k)) (v := nI (k + 1)) dX3_countStable_43 rfl (nI_add _ 1) rfl ?_
          change q_W _ _ _ _ _ _ _ _ _ [q_u, .ref (a), .int (c10_2 + (1)), .int (nI (2 ^ n - 1)), .int (nI (k + 1))] [] _
          refine q_goto 10 dX3_countStable_46 (by decide) ?_
          change q_W _ _ _ _ _ _ _ _ _ [q_u, .ref (a), .int (c10_2 + (1)), .int (nI (2 ^ n - 1)), .int (nI (k + 1))] [] _
          exact ih (k + 1) (c10_2 + (1)) (by omega) (fun r10_0 e9 => K r10_0 (by simp only [x_ex_countStable_10, if_pos b22, if_pos b37]; exact e9))
def x_ex_countStable (n : Nat) (att : Nat → Int32) : Int32 := (let a2_0 := x_ex_countStable_10 n att (2 ^ n - 1 + 1) 0 0; a2_0)
set_option maxRecDepth 100000 in
set_option maxHeartbeats 8000000 in
theorem e_ex_countStable {g : q_G} {h : q_H} {d : Nat} {x : Nat} {pf : Nat → Int32} {cv : Nat → Int32} {sc : Nat} (sex : z_Ex h x pf cv sc) {a : Nat} {n : Nat} {id : Nat → Int32} {wt : Nat → Int32} {ag : Nat → Int32} {tg : Nat → Int32} {att : Nat → Int32} {ni : Int32} {dy : Int32} {mn : Nat} {mv : Nat → Int32} {en : Int32} {wo : Int32} {br : Int32} (sst : z_S2 h a n id wt ag tg att ni dy mn mv en wo br)     (hd : 3 ≤ d) : q_Spec g mX3_countStable d 0 0 [.ref (x), .ref (a)] h (q_ret ((some (.int (x_ex_countStable n att)))) h) := by
  have hr_ex := sex.r0
  have hb_ex_sc := sex.bsc
  have hr_st := sst.r0
  have hb_st_n := sst.bn
  have hb_st_mn := sst.bmn
  have ho_ex_sc := sex.bsc
  have ho_st_n := sst.bn
  have ho_st_mn := sst.bmn
  refine q_enter (by decide +kernel) rfl rfl (Nat.le_of_ble_eq_true rfl) (fun hz => ?_)
  change q_W _ _ _ _ _ _ _ _ _ [.ref (x), .ref (a), q_u, q_u, q_u] [] _
  refine q_iconst (v := 0) dX3_countStable_0 rfl ?_
  refine q_istore_n dX3_countStable_1 (by decide) rfl ?_
  change q_W _ _ _ _ _ _ _ _ _ [.ref (x), .ref (a), .int (0), q_u, q_u] [] _
  refine q_aload_n (by first | assumption | omega | decide) dX3_countStable_2 rfl ?_
  refine q_invV (mc' := 0) (ms' := 0) (d' := d - 1) (as := []) dX3_countStable_3 kM_X8_all kL_X3_22 kI_X8_all kS_X8_all rfl (kC_X8.1) sst.c0 rfl rfl (Nat.le_of_ble_eq_true rfl) (by omega) (by decide) (by omega) (by omega) (e_st_allN (d := d - 1) sst (by omega)) (q_kR ?_) q_xR
  have g1_2 : 2 ^ n ≤ 2 ^ 8 := z_pow8 sst.bn
  have g1_2p : 1 ≤ 2 ^ n := Nat.one_le_two_pow
  change q_W _ _ _ _ _ _ _ _ 6 [.ref (x), .ref (a), .int (0), q_u, q_u] [.int (nI (2 ^ n - 1))] _
  refine q_istore_n dX3_countStable_6 (by decide) rfl ?_
  change q_W _ _ _ _ _ _ _ _ _ [.ref (x), .ref (a), .int (0), .int (nI (2 ^ n - 1)), q_u] [] _
  refine q_iconst (v := 0) dX3_countStable_7 rfl ?_
  refine q_istore dX3_countStable_8 (by decide) rfl ?_
  change q_W _ _ _ _ _ _ _ _ _ [.ref (x), .ref (a), .int (0), .int (nI (2 ^ n - 1)), .int (0)] [] _
  refine q_forget 0 ?_
  change q_W _ _ _ _ _ _ _ _ _ [q_u, .ref (a), .int (0), .int (nI (2 ^ n - 1)), .int (0)] [] _
  refine l_ex_countStable_10 sex sst ho_ex_sc ho_st_n ho_st_mn g1_2 g1_2p (by omega) (by omega) (by omega) (2 ^ n - 1 + 1) 0 0 (by omega) (fun a2_0 x2 => ?_)
  change q_W _ _ _ _ _ _ _ _ 49 [q_u, q_u, .int (a2_0), q_u, q_u] [] _
  refine q_iload_n dX3_countStable_49 rfl ?_
  have hE : x_ex_countStable n att = a2_0 := by simp only [x_ex_countStable, x2]
  rw [hE]
  exact q_ireturn dX3_countStable_50 rfl rfl (by omega) (by omega) ⟨rfl, rfl⟩
def x_ex_sizeOfGreatestAdmissible_10 (n : Nat) (att : Nat → Int32) : Nat → Nat → (Int32) → (Int32)
  | 0, _, c10_2 => c10_2
  | r + 1, k, c10_2 => (if x_ex_isAdmissible n att (nI (k)) then x_ex_sizeOfGreatestAdmissible_10 n att r (k + 1) (if c10_2 < z_bc (nI (k)) then z_bc (nI (k)) else c10_2) else x_ex_sizeOfGreatestAdmissible_10 n att r (k + 1) c10_2)
set_option maxRecDepth 100000 in
set_option maxHeartbeats 8000000 in
theorem l_ex_sizeOfGreatestAdmissible_10 {g : q_G} {h : q_H} {d mc ms kc ks : Nat} {Q : q_O → q_H → Prop} {x : Nat} {pf : Nat → Int32} {cv : Nat → Int32} {sc : Nat} {a : Nat} {n : Nat} {id : Nat → Int32} {wt : Nat → Int32} {ag : Nat → Int32} {tg : Nat → Int32} {att : Nat → Int32} {ni : Int32} {dy : Int32} {mn : Nat} {mv : Nat → Int32} {en : Int32} {wo : Int32} {br : Int32} (sex : z_Ex h x pf cv sc) (sst : z_S2 h a n id wt ag tg att ni dy mn mv en wo br)  (ho_ex_sc : sc ≤ 256) (ho_st_n : n ≤ 8) (ho_st_mn : mn ≤ 12) (g1_2 : 2 ^ n ≤ 2 ^ 8) (g1_2p : 1 ≤ 2 ^ n)  (hd : 3 ≤ d) (hkc : kc + 0 ≤ mc) (hks : ks + 0 ≤ ms) : ∀ (r k : Nat) (c10_2 : Int32) (hk_10 : k + r = 2 ^ n - 1 + 1) (K : ∀ (r10_0 : Int32), x_ex_sizeOfGreatestAdmissible_10 n att r k c10_2 = r10_0 → q_W g mX3_sizeOfGreatestAdmissible d mc ms Q kc ks 41 [q_u, q_u, .int (r10_0), q_u, q_u] [] h), q_W g mX3_sizeOfGreatestAdmissible d mc ms Q kc ks 10 [q_u, .ref (a), .int (c10_2), .int (nI (2 ^ n - 1)), .int (nI (k))] [] h := by
  intro r
  induction r with
  | zero =>
    intro k c10_2  hk_10 K
    have hr_ex := sex.r0
    have hb_ex_sc := sex.bsc
    have hr_st := sst.r0
    have hb_st_n := sst.bn
    have hb_st_mn := sst.bmn
    refine q_iload dX3_sizeOfGreatestAdmissible_10 rfl ?_
    refine q_iload_n dX3_sizeOfGreatestAdmissible_12 rfl ?_
    refine q_icmp_gt 41 dX3_sizeOfGreatestAdmissible_13 (by decide) (fun b13 => ?_) (fun b13 => ?_)
    · have b13 := (nI_ltI (a := 2 ^ n - 1) (b := k) (by omega) (by omega)).mp b13
      refine q_forget 1 ?_
      refine q_forget 3 ?_
      refine q_forget 4 ?_
      change q_W _ _ _ _ _ _ _ _ _ [q_u, q_u, .int (c10_2), q_u, q_u] [] _
      exact K c10_2 (by simp only [x_ex_sizeOfGreatestAdmissible_10])
    · have b13 : ¬ (2 ^ n - 1 < k) := fun q => b13 ((nI_ltI (a := 2 ^ n - 1) (b := k) (by omega) (by omega)).mpr q)
      exact absurd b13 (by omega)
  | succ r ih =>
    intro k c10_2  hk_10 K
    have hr_ex := sex.r0
    have hb_ex_sc := sex.bsc
    have hr_st := sst.r0
    have hb_st_n := sst.bn
    have hb_st_mn := sst.bmn
    refine q_iload dX3_sizeOfGreatestAdmissible_10 rfl ?_
    refine q_iload_n dX3_sizeOfGreatestAdmissible_12 rfl ?_
    refine q_icmp_gt 41 dX3_sizeOfGreatestAdmissible_13 (by decide) (fun b13 => ?_) (fun b13 => ?_)
    · have b13 := (nI_ltI (a := 2 ^ n - 1) (b := k) (by omega) (by omega)).mp b13
      exact absurd b13 (by omega)
    · have b13 : ¬ (2 ^ n - 1 < k) := fun q => b13 ((nI_ltI (a := 2 ^ n - 1) (b := k) (by omega) (by omega)).mpr q)
      refine q_aload_n (by first | assumption | omega | decide) dX3_sizeOfGreatestAdmissible_16 rfl ?_
      refine q_iload dX3_sizeOfGreatestAdmissible_17 rfl ?_
      refine q_invS (mc' := 0) (ms' := 0) (d' := d - 1) (as := [.ref (a), .int (nI (k))]) dX3_sizeOfGreatestAdmissible_19 kM_X3_isAdmissible kL_X3_40 kT_X3_isAdmissible rfl rfl rfl (Nat.le_of_ble_eq_true rfl) (by omega) (by decide) (by omega) (by omega) (e_ex_isAdmissible (d := d - 1) sst (nI (k)) (by omega)) (q_kR ?_) q_xR
      change q_W _ _ _ _ _ _ _ _ 22 [q_u, .ref (a), .int (c10_2), .int (nI (2 ^ n - 1)), .int (nI (k))] [.int (z_b (x_ex_isAdmissible n att (nI (k))))] _
      refine q_if_eq 35 dX3_sizeOfGreatestAdmissible_22 (by decide) (fun b22 => ?_) (fun b22 => ?_)
      · have b22 := z_b0n b22
        refine q_iinc (x := nI (k)) (v := nI (k + 1)) dX3_sizeOfGreatestAdmissible_35 rfl (nI_add _ 1) rfl ?_
        change q_W _ _ _ _ _ _ _ _ _ [q_u, .ref (a), .int (c10_2), .int (nI (2 ^ n - 1)), .int (nI (k + 1))] [] _
        refine q_goto 10 dX3_sizeOfGreatestAdmissible_38 (by decide) ?_
        change q_W _ _ _ _ _ _ _ _ _ [q_u, .ref (a), .int (c10_2), .int (nI (2 ^ n - 1)), .int (nI (k + 1))] [] _
        exact ih (k + 1) c10_2 (by omega) (fun r10_0 e9 => K r10_0 (by simp only [x_ex_sizeOfGreatestAdmissible_10, if_neg b22]; exact e9))
      · have b22 := z_b1 b22
        refine q_iload_n dX3_sizeOfGreatestAdmissible_25 rfl ?_
        refine q_iload dX3_sizeOfGreatestAdmissible_26 rfl ?_
        refine q_invS (mc' := 0) (ms' := 0) (d' := d - 1) (as := [.int (nI (k))]) dX3_sizeOfGreatestAdmissible_28 kM_J6_bitCount_0f7a4 kL_X3_43 kT_J6_bitCount_0f7a4 rfl rfl rfl (Nat.le_of_ble_eq_true rfl) (by omega) (by decide) (by omega) (by omega) (e_bitCount (d := d - 1)) (q_kR ?_) q_xR
        change q_W _ _ _ _ _ _ _ _ 31 [q_u, .ref (a), .int (c10_2), .int (nI (2 ^ n - 1)), .int (nI (k))] [.int (z_bc (nI (k))), .int (c10_2)] _
        refine q_mmax kL_X3_49 kT_J9_max_7cf53 (kM_J9_max_7cf53.2.2.2.1) rfl dX3_sizeOfGreatestAdmissible_31 (Nat.le_of_ble_eq_true rfl) (by omega) (by omega) (by omega) ?_
        change q_W _ _ _ _ _ _ _ _ _ [q_u, .ref (a), .int (c10_2), .int (nI (2 ^ n - 1)), .int (nI (k))] [.int ((if c10_2 < z_bc (nI (k)) then z_bc (nI (k)) else c10_2))] _
        refine q_istore_n dX3_sizeOfGreatestAdmissible_34 (by decide) rfl ?_
        change q_W _ _ _ _ _ _ _ _ _ [q_u, .ref (a), .int ((if c10_2 < z_bc (nI (k)) then z_bc (nI (k)) else c10_2)), .int (nI (2 ^ n - 1)), .int (nI (k))] [] _
        refine q_iinc (x := nI (k)) (v := nI (k + 1)) dX3_sizeOfGreatestAdmissible_35 rfl (nI_add _ 1) rfl ?_
        change q_W _ _ _ _ _ _ _ _ _ [q_u, .ref (a), .int ((if c10_2 < z_bc (nI (k)) then z_bc (nI (k)) else c10_2)), .int (nI (2 ^ n - 1)), .int (nI (k + 1))] [] _
        refine q_goto 10 dX3_sizeOfGreatestAdmissible_38 (by decide) ?_
        change q_W _ _ _ _ _ _ _ _ _ [q_u, .ref (a), .int ((if c10_2 < z_bc (nI (k)) then z_bc (nI (k)) else c10_2)), .int (nI (2 ^ n - 1)), .int (nI (k + 1))] [] _
        exact ih (k + 1) (if c10_2 < z_bc (nI (k)) then z_bc (nI (k)) else c10_2) (by omega) (fun r10_0 e9 => K r10_0 (by simp only [x_ex_sizeOfGreatestAdmissible_10, if_pos b22]; exact e9))
def x_ex_sizeOfGreatestAdmissible (n : Nat) (att : Nat → Int32) : Int32 := (let a2_0 := x_ex_sizeOfGreatestAdmissible_10 n att (2 ^ n - 1 + 1) 0 0; a2_0)
set_option maxRecDepth 100000 in
set_option maxHeartbeats 8000000 in
theorem e_ex_sizeOfGreatestAdmissible {g : q_G} {h : q_H} {d : Nat} {x : Nat} {pf : Nat → Int32} {cv : Nat → Int32} {sc : Nat} (sex : z_Ex h x pf cv sc) {a : Nat} {n : Nat} {id : Nat → Int32} {wt : Nat → Int32} {ag : Nat → Int32} {tg : Nat → Int32} {att : Nat → Int32} {ni : Int32} {dy : Int32} {mn : Nat} {mv : Nat → Int32} {en : Int32} {wo : Int32} {br : Int32} (sst : z_S2 h a n id wt ag tg att ni dy mn mv en wo br)     (hd : 3 ≤ d) : q_Spec g mX3_sizeOfGreatestAdmissible d 0 0 [.ref (x), .ref (a)] h (q_ret ((some (.int (x_ex_sizeOfGreatestAdmissible n att)))) h) := by
  have hr_ex := sex.r0
  have hb_ex_sc := sex.bsc
  have hr_st := sst.r0
  have hb_st_n := sst.bn
  have hb_st_mn := sst.bmn
  have ho_ex_sc := sex.bsc
  have ho_st_n := sst.bn
  have ho_st_mn := sst.bmn
  refine q_enter (by decide +kernel) rfl rfl (Nat.le_of_ble_eq_true rfl) (fun hz => ?_)
  change q_W _ _ _ _ _ _ _ _ _ [.ref (x), .ref (a), q_u, q_u, q_u] [] _
  refine q_iconst (v := 0) dX3_sizeOfGreatestAdmissible_0 rfl ?_
  refine q_istore_n dX3_sizeOfGreatestAdmissible_1 (by decide) rfl ?_
  change q_W _ _ _ _ _ _ _ _ _ [.ref (x), .ref (a), .int (0), q_u, q_u] [] _
  refine q_aload_n (by first | assumption | omega | decide) dX3_sizeOfGreatestAdmissible_2 rfl ?_
  refine q_invV (mc' := 0) (ms' := 0) (d' := d - 1) (as := []) dX3_sizeOfGreatestAdmissible_3 kM_X8_all kL_X3_22 kI_X8_all kS_X8_all rfl (kC_X8.1) sst.c0 rfl rfl (Nat.le_of_ble_eq_true rfl) (by omega) (by decide) (by omega) (by omega) (e_st_allN (d := d - 1) sst (by omega)) (q_kR ?_) q_xR
  have g1_2 : 2 ^ n ≤ 2 ^ 8 := z_pow8 sst.bn
  have g1_2p : 1 ≤ 2 ^ n := Nat.one_le_two_pow
  change q_W _ _ _ _ _ _ _ _ 6 [.ref (x), .ref (a), .int (0), q_u, q_u] [.int (nI (2 ^ n - 1))] _
  refine q_istore_n dX3_sizeOfGreatestAdmissible_6 (by decide) rfl ?_
  change q_W _ _ _ _ _ _ _ _ _ [.ref (x), .ref (a), .int (0), .int (nI (2 ^ n - 1)), q_u] [] _
  refine q_iconst (v := 0) dX3_sizeOfGreatestAdmissible_7 rfl ?_
  refine q_istore dX3_sizeOfGreatestAdmissible_8 (by decide) rfl ?_
  change q_W _ _ _ _ _ _ _ _ _ [.ref (x), .ref (a), .int (0), .int (nI (2 ^ n - 1)), .int (0)] [] _
  refine q_forget 0 ?_
  change q_W _ _ _ _ _ _ _ _ _ [q_u, .ref (a), .int (0), .int (nI (2 ^ n - 1)), .int (0)] [] _
  refine l_ex_sizeOfGreatestAdmissible_10 sex sst ho_ex_sc ho_st_n ho_st_mn g1_2 g1_2p (by omega) (by omega) (by omega) (2 ^ n - 1 + 1) 0 0 (by omega) (fun a2_0 x2 => ?_)
  change q_W _ _ _ _ _ _ _ _ 41 [q_u, q_u, .int (a2_0), q_u, q_u] [] _
  refine q_iload_n dX3_sizeOfGreatestAdmissible_41 rfl ?_
  have hE : x_ex_sizeOfGreatestAdmissible n att = a2_0 := by simp only [x_ex_sizeOfGreatestAdmissible, x2]
  rw [hE]
  exact q_ireturn dX3_sizeOfGreatestAdmissible_42 rfl rfl (by omega) (by omega) ⟨rfl, rfl⟩
def x_ex_isCoveredByGreater_2 (cv : Nat → Int32) (j : Nat) (m : Nat) : Nat → Nat → (Unit) ⊕ (Bool)
  | 0, _ => .inl ()
  | r + 1, k => (if z_has ((nI (m)) &&& ((nI (j)) ^^^ (-1 : Int32))) k then (if (cv (j ||| (2 ^ k))) = (0) then x_ex_isCoveredByGreater_2 cv j m r (k + 1)  else .inr true) else x_ex_isCoveredByGreater_2 cv j m r (k + 1) )
set_option maxRecDepth 100000 in
set_option maxHeartbeats 8000000 in
theorem l_ex_isCoveredByGreater_2 {g : q_G} {h : q_H} {d mc ms kc ks : Nat} {Q : q_O → q_H → Prop} {x : Nat} {pf : Nat → Int32} {cv : Nat → Int32} {sc : Nat} {j : Nat} {m : Nat} (sex : z_Ex h x pf cv sc)  (hj : j < 2 ^ 8) (ho_ex_sc : sc ≤ 256)  (hd : 1 ≤ d) (hkc : kc + 0 ≤ mc) (hks : ks + 0 ≤ ms) : ∀ (r k : Nat)  (hk_2 : k + r = 8) (K : ∀ (_ : Unit), x_ex_isCoveredByGreater_2 cv j m r k  = .inl () → q_W g mX3_isCoveredByGreater d mc ms Q kc ks 41 [q_u, q_u, q_u, q_u] [] h) (K2 : ∀ z, x_ex_isCoveredByGreater_2 cv j m r k  = .inr z → ∀ o h1, q_ret ((some (.int (z_b z)))) h o h1 → Q o h1), q_W g mX3_isCoveredByGreater d mc ms Q kc ks 2 [.ref (x), .int (nI (j)), .int (nI (m)), .int (nI (k))] [] h := by
  intro r
  induction r with
  | zero =>
    intro k   hk_2 K K2
    have hr_ex := sex.r0
    have hb_ex_sc := sex.bsc
    refine q_iload_n dX3_isCoveredByGreater_2 rfl ?_
    refine q_bipush (v := 8) dX3_isCoveredByGreater_3 rfl ?_
    refine q_icmp_ge 41 dX3_isCoveredByGreater_5 (by decide) (fun b5 => ?_) (fun b5 => ?_)
    · have b5 := (nI_leI (a := 8) (b := k) (by omega) (by omega)).mp b5
      refine q_forget 0 ?_
      refine q_forget 1 ?_
      refine q_forget 2 ?_
      refine q_forget 3 ?_
      change q_W _ _ _ _ _ _ _ _ _ [q_u, q_u, q_u, q_u] [] _
      exact K () (by simp only [x_ex_isCoveredByGreater_2])
    · have b5 : ¬ (8 ≤ k) := fun q => b5 ((nI_leI (a := 8) (b := k) (by omega) (by omega)).mpr q)
      exact absurd b5 (by omega)
  | succ r ih =>
    intro k   hk_2 K K2
    have hr_ex := sex.r0
    have hb_ex_sc := sex.bsc
    refine q_iload_n dX3_isCoveredByGreater_2 rfl ?_
    refine q_bipush (v := 8) dX3_isCoveredByGreater_3 rfl ?_
    refine q_icmp_ge 41 dX3_isCoveredByGreater_5 (by decide) (fun b5 => ?_) (fun b5 => ?_)
    · have b5 := (nI_leI (a := 8) (b := k) (by omega) (by omega)).mp b5
      exact absurd b5 (by omega)
    · have b5 : ¬ (8 ≤ k) := fun q => b5 ((nI_leI (a := 8) (b := k) (by omega) (by omega)).mpr q)
      refine q_iload_n dX3_isCoveredByGreater_8 rfl ?_
      refine q_iload_n dX3_isCoveredByGreater_9 rfl ?_
      refine q_iconst (v := -1) dX3_isCoveredByGreater_10 rfl ?_
      refine q_ixor dX3_isCoveredByGreater_11 ?_
      refine q_iand dX3_isCoveredByGreater_12 ?_
      refine q_iload_n dX3_isCoveredByGreater_13 rfl ?_
      refine q_invSN (mc' := 0) (ms' := 0) (d' := d - 1) (as := [.int ((nI (m)) &&& ((nI (j)) ^^^ (-1 : Int32))), .int (nI (k))]) dX3_isCoveredByGreater_14 kM_X10_has kN_X3_59 kT_X10_has rfl rfl rfl (Nat.le_of_ble_eq_true rfl) (by omega) (by decide) (by omega) (by omega) (e_has (d := d - 1)) (q_kR ?_) q_xR
      change q_W _ _ _ _ _ _ _ _ 17 [.ref (x), .int (nI (j)), .int (nI (m)), .int (nI (k))] [.int (z_b (z_has ((nI (m)) &&& ((nI (j)) ^^^ (-1 : Int32))) k))] _
      refine q_if_eq 35 dX3_isCoveredByGreater_17 (by decide) (fun b17 => ?_) (fun b17 => ?_)
      · have b17 := z_b0n b17
        refine q_iinc (x := nI (k)) (v := nI (k + 1)) dX3_isCoveredByGreater_35 rfl (nI_add _ 1) rfl ?_
        change q_W _ _ _ _ _ _ _ _ _ [.ref (x), .int (nI (j)), .int (nI (m)), .int (nI (k + 1))] [] _
        refine q_goto 2 dX3_isCoveredByGreater_38 (by decide) ?_
        change q_W _ _ _ _ _ _ _ _ _ [.ref (x), .int (nI (j)), .int (nI (m)), .int (nI (k + 1))] [] _
        exact ih (k + 1)  (by omega) (fun _ e9 => K () (by simp only [x_ex_isCoveredByGreater_2, if_neg b17]; exact e9)) (fun z9 e9 => K2 z9 (by simp only [x_ex_isCoveredByGreater_2, if_neg b17]; exact e9))
      · have b17 := z_b1 b17
        refine q_aload_n (by first | assumption | omega | decide) dX3_isCoveredByGreater_20 rfl ?_
        refine q_getf (k := 1) (v := .ref (x + 2)) kC_X3 kL_X3_15 rfl (by decide) dX3_isCoveredByGreater_21 sex.c0 rfl ?_
        refine q_iload_n dX3_isCoveredByGreater_24 rfl ?_
        refine q_iconst (v := 1) dX3_isCoveredByGreater_25 rfl ?_
        refine q_iload_n dX3_isCoveredByGreater_26 rfl ?_
        refine q_shl1N (a := k) (by omega) dX3_isCoveredByGreater_27 ?_
        have g27 : 2 ^ k < 2 ^ 8 := Nat.pow_lt_pow_right (by decide) (by omega)
        refine q_iorN (a := j) (b := 2 ^ k) dX3_isCoveredByGreater_28 ?_
        have g28 : j ||| (2 ^ k) < 2 ^ 8 := Nat.or_lt_two_pow (by omega) (by omega)
        refine q_zaldN (j := j ||| (2 ^ k)) (f := cv) dX3_isCoveredByGreater_29 sex.c2 (by omega) (by decide) ?_
        change q_W _ _ _ _ _ _ _ _ _ _ [.int (cv (j ||| (2 ^ k)))] _
        refine q_if_eq 35 dX3_isCoveredByGreater_30 (by decide) (fun b30 => ?_) (fun b30 => ?_)
        · refine q_iinc (x := nI (k)) (v := nI (k + 1)) dX3_isCoveredByGreater_35 rfl (nI_add _ 1) rfl ?_
          change q_W _ _ _ _ _ _ _ _ _ [.ref (x), .int (nI (j)), .int (nI (m)), .int (nI (k + 1))] [] _
          refine q_goto 2 dX3_isCoveredByGreater_38 (by decide) ?_
          change q_W _ _ _ _ _ _ _ _ _ [.ref (x), .int (nI (j)), .int (nI (m)), .int (nI (k + 1))] [] _
          exact ih (k + 1)  (by omega) (fun _ e9 => K () (by simp only [x_ex_isCoveredByGreater_2, if_pos b17, if_pos b30]; exact e9)) (fun z9 e9 => K2 z9 (by simp only [x_ex_isCoveredByGreater_2, if_pos b17, if_pos b30]; exact e9))
        · refine q_iconst (v := 1) dX3_isCoveredByGreater_33 rfl ?_
          exact q_ireturn dX3_isCoveredByGreater_34 rfl rfl (by omega) (by omega) (K2 true (by simp only [x_ex_isCoveredByGreater_2, if_pos b17, if_neg b30]) _ _ ⟨rfl, rfl⟩)
def x_ex_isCoveredByGreater (cv : Nat → Int32) (j : Nat) (m : Nat) : Bool := (match x_ex_isCoveredByGreater_2 cv j m 8 0 with | .inl () => false | .inr zz => zz)
set_option maxRecDepth 100000 in
set_option maxHeartbeats 8000000 in
theorem e_ex_isCoveredByGreater {g : q_G} {h : q_H} {d : Nat} {x : Nat} {pf : Nat → Int32} {cv : Nat → Int32} {sc : Nat} (sex : z_Ex h x pf cv sc)  (j : Nat) (m : Nat) (hj : j < 2 ^ 8)  (hd : 1 ≤ d) : q_Spec g mX3_isCoveredByGreater d 0 0 [.ref (x), .int (nI (j)), .int (nI (m))] h (q_ret ((some (.int (z_b (x_ex_isCoveredByGreater cv j m))))) h) := by
  have hr_ex := sex.r0
  have hb_ex_sc := sex.bsc
  have ho_ex_sc := sex.bsc
  refine q_enter (by decide +kernel) rfl rfl (Nat.le_of_ble_eq_true rfl) (fun hz => ?_)
  change q_W _ _ _ _ _ _ _ _ _ [.ref (x), .int (nI (j)), .int (nI (m)), q_u] [] _
  refine q_iconst (v := 0) dX3_isCoveredByGreater_0 rfl ?_
  refine q_istore_n dX3_isCoveredByGreater_1 (by decide) rfl ?_
  change q_W _ _ _ _ _ _ _ _ _ [.ref (x), .int (nI (j)), .int (nI (m)), .int (0)] [] _
  change q_W _ _ _ _ _ _ _ _ _ [.ref (x), .int (nI (j)), .int (nI (m)), .int (0)] [] _
  refine l_ex_isCoveredByGreater_2 sex hj ho_ex_sc (by omega) (by omega) (by omega) 8 0 (by omega) (fun _ x1 => ?_) (fun zz x1 => ?_)
  · change q_W _ _ _ _ _ _ _ _ 41 [q_u, q_u, q_u, q_u] [] _
    refine q_iconst (v := 0) dX3_isCoveredByGreater_41 rfl ?_
    have hE : x_ex_isCoveredByGreater cv j m = false := by simp only [x_ex_isCoveredByGreater, x1]
    rw [hE]
    exact q_ireturn dX3_isCoveredByGreater_42 rfl rfl (by omega) (by omega) ⟨rfl, rfl⟩
  · have hE : x_ex_isCoveredByGreater cv j m = zz := by simp only [x_ex_isCoveredByGreater, x1]
    rw [hE]
    exact fun _ _ q9 => q9
def x_ex_countPreferredWith_4 (pf : Nat → Int32) (xs : Int32) : Nat → Nat → (Int32) → (Int32)
  | 0, _, c4_2 => c4_2
  | r + 1, k, c4_2 => (if (pf k) = (0) then x_ex_countPreferredWith_4 pf xs r (k + 1) c4_2 else (if ((nI (k)) &&& xs) = (xs) then x_ex_countPreferredWith_4 pf xs r (k + 1) (c4_2 + (1)) else x_ex_countPreferredWith_4 pf xs r (k + 1) c4_2))
set_option maxRecDepth 100000 in
set_option maxHeartbeats 8000000 in
theorem l_ex_countPreferredWith_4 {g : q_G} {h : q_H} {d mc ms kc ks : Nat} {Q : q_O → q_H → Prop} {x : Nat} {pf : Nat → Int32} {cv : Nat → Int32} {sc : Nat} {xs : Int32} (sex : z_Ex h x pf cv sc)  (ho_ex_sc : sc ≤ 256)  (hd : 0 ≤ d) (hkc : kc + 0 ≤ mc) (hks : ks + 0 ≤ ms) : ∀ (r k : Nat) (c4_2 : Int32) (hk_4 : k + r = sc) (K : ∀ (r4_0 : Int32), x_ex_countPreferredWith_4 pf xs r k c4_2 = r4_0 → q_W g mX3_countPreferredWith d mc ms Q kc ks 37 [q_u, q_u, .int (r4_0), q_u] [] h), q_W g mX3_countPreferredWith d mc ms Q kc ks 4 [.ref (x), .int (xs), .int (c4_2), .int (nI (k))] [] h := by
  intro r
  induction r with
  | zero =>
    intro k c4_2  hk_4 K
    have hr_ex := sex.r0
    have hb_ex_sc := sex.bsc
    refine q_iload_n dX3_countPreferredWith_4 rfl ?_
    refine q_aload_n (by first | assumption | omega | decide) dX3_countPreferredWith_5 rfl ?_
    refine q_getf (k := 2) (v := .int (nI (sc))) kC_X3 kL_X3_18 rfl (by decide) dX3_countPreferredWith_6 sex.c0 rfl ?_
    refine q_icmp_ge 37 dX3_countPreferredWith_9 (by decide) (fun b9 => ?_) (fun b9 => ?_)
    · have b9 := (nI_leI (a := sc) (b := k) (by omega) (by omega)).mp b9
      refine q_forget 0 ?_
      refine q_forget 1 ?_
      refine q_forget 3 ?_
      change q_W _ _ _ _ _ _ _ _ _ [q_u, q_u, .int (c4_2), q_u] [] _
      exact K c4_2 (by simp only [x_ex_countPreferredWith_4])
    · have b9 : ¬ (sc ≤ k) := fun q => b9 ((nI_leI (a := sc) (b := k) (by omega) (by omega)).mpr q)
      exact absurd b9 (by omega)
  | succ r ih =>
    intro k c4_2  hk_4 K
    have hr_ex := sex.r0
    have hb_ex_sc := sex.bsc
    refine q_iload_n dX3_countPreferredWith_4 rfl ?_
    refine q_aload_n (by first | assumption | omega | decide) dX3_countPreferredWith_5 rfl ?_
    refine q_getf (k := 2) (v := .int (nI (sc))) kC_X3 kL_X3_18 rfl (by decide) dX3_countPreferredWith_6 sex.c0 rfl ?_
    refine q_icmp_ge 37 dX3_countPreferredWith_9 (by decide) (fun b9 => ?_) (fun b9 => ?_)
    · have b9 := (nI_leI (a := sc) (b := k) (by omega) (by omega)).mp b9
      exact absurd b9 (by omega)
    · have b9 : ¬ (sc ≤ k) := fun q => b9 ((nI_leI (a := sc) (b := k) (by omega) (by omega)).mpr q)
      refine q_aload_n (by first | assumption | omega | decide) dX3_countPreferredWith_12 rfl ?_
      refine q_getf (k := 0) (v := .ref (x + 1)) kC_X3 kL_X3_9 rfl (by decide) dX3_countPreferredWith_13 sex.c0 rfl ?_
      refine q_iload_n dX3_countPreferredWith_16 rfl ?_
      refine q_zaldN (j := k) (f := pf) dX3_countPreferredWith_17 sex.c1 (by omega) (by decide) ?_
      change q_W _ _ _ _ _ _ _ _ _ _ [.int (pf k)] _
      refine q_if_eq 31 dX3_countPreferredWith_18 (by decide) (fun b18 => ?_) (fun b18 => ?_)
      · refine q_iinc (x := nI (k)) (v := nI (k + 1)) dX3_countPreferredWith_31 rfl (nI_add _ 1) rfl ?_
        change q_W _ _ _ _ _ _ _ _ _ [.ref (x), .int (xs), .int (c4_2), .int (nI (k + 1))] [] _
        refine q_goto 4 dX3_countPreferredWith_34 (by decide) ?_
        change q_W _ _ _ _ _ _ _ _ _ [.ref (x), .int (xs), .int (c4_2), .int (nI (k + 1))] [] _
        exact ih (k + 1) c4_2 (by omega) (fun r4_0 e9 => K r4_0 (by simp only [x_ex_countPreferredWith_4, if_pos b18]; exact e9))
      · refine q_iload_n dX3_countPreferredWith_21 rfl ?_
        refine q_iload_n dX3_countPreferredWith_22 rfl ?_
        refine q_iand dX3_countPreferredWith_23 ?_
        refine q_iload_n dX3_countPreferredWith_24 rfl ?_
        refine q_icmp_ne 31 dX3_countPreferredWith_25 (by decide) (fun b25 => ?_) (fun b25 => ?_)
        · refine q_iinc (x := nI (k)) (v := nI (k + 1)) dX3_countPreferredWith_31 rfl (nI_add _ 1) rfl ?_
          change q_W _ _ _ _ _ _ _ _ _ [.ref (x), .int (xs), .int (c4_2), .int (nI (k + 1))] [] _
          refine q_goto 4 dX3_countPreferredWith_34 (by decide) ?_
          change q_W _ _ _ _ _ _ _ _ _ [.ref (x), .int (xs), .int (c4_2), .int (nI (k + 1))] [] _
          exact ih (k + 1) c4_2 (by omega) (fun r4_0 e9 => K r4_0 (by simp only [x_ex_countPreferredWith_4, if_neg b18, if_neg b25]; exact e9))
        · refine q_iinc (x := c4_2) (v := c4_2 + (1)) dX3_countPreferredWith_28 rfl rfl rfl ?_
          change q_W _ _ _ _ _ _ _ _ _ [.ref (x), .int (xs), .int (c4_2 + (1)), .int (nI (k))] [] _
          refine q_iinc (x := nI (k)) (v := nI (k + 1)) dX3_countPreferredWith_31 rfl (nI_add _ 1) rfl ?_
          change q_W _ _ _ _ _ _ _ _ _ [.ref (x), .int (xs), .int (c4_2 + (1)), .int (nI (k + 1))] [] _
          refine q_goto 4 dX3_countPreferredWith_34 (by decide) ?_
          change q_W _ _ _ _ _ _ _ _ _ [.ref (x), .int (xs), .int (c4_2 + (1)), .int (nI (k + 1))] [] _
          exact ih (k + 1) (c4_2 + (1)) (by omega) (fun r4_0 e9 => K r4_0 (by simp only [x_ex_countPreferredWith_4, if_neg b18, if_pos b25]; exact e9))
def x_ex_countPreferredWith (pf : Nat → Int32) (sc : Nat) (xs : Int32) : Int32 := (let a1_0 := x_ex_countPreferredWith_4 pf xs sc 0 0; a1_0)
set_option maxRecDepth 100000 in
set_option maxHeartbeats 8000000 in
theorem e_ex_countPreferredWith {g : q_G} {h : q_H} {d : Nat} {x : Nat} {pf : Nat → Int32} {cv : Nat → Int32} {sc : Nat} (sex : z_Ex h x pf cv sc)  (xs : Int32)   (hd : 0 ≤ d) : q_Spec g mX3_countPreferredWith d 0 0 [.ref (x), .int (xs)] h (q_ret ((some (.int (x_ex_countPreferredWith pf sc xs)))) h) := by
  have hr_ex := sex.r0
  have hb_ex_sc := sex.bsc
  have ho_ex_sc := sex.bsc
  refine q_enter (by decide +kernel) rfl rfl (Nat.le_of_ble_eq_true rfl) (fun hz => ?_)
  change q_W _ _ _ _ _ _ _ _ _ [.ref (x), .int (xs), q_u, q_u] [] _
  refine q_iconst (v := 0) dX3_countPreferredWith_0 rfl ?_
  refine q_istore_n dX3_countPreferredWith_1 (by decide) rfl ?_
  change q_W _ _ _ _ _ _ _ _ _ [.ref (x), .int (xs), .int (0), q_u] [] _
  refine q_iconst (v := 0) dX3_countPreferredWith_2 rfl ?_
  refine q_istore_n dX3_countPreferredWith_3 (by decide) rfl ?_
  change q_W _ _ _ _ _ _ _ _ _ [.ref (x), .int (xs), .int (0), .int (0)] [] _
  change q_W _ _ _ _ _ _ _ _ _ [.ref (x), .int (xs), .int (0), .int (0)] [] _
  refine l_ex_countPreferredWith_4 sex ho_ex_sc (by omega) (by omega) (by omega) sc 0 0 (by omega) (fun a1_0 x1 => ?_)
  change q_W _ _ _ _ _ _ _ _ 37 [q_u, q_u, .int (a1_0), q_u] [] _
  refine q_iload_n dX3_countPreferredWith_37 rfl ?_
  have hE : x_ex_countPreferredWith pf sc xs = a1_0 := by simp only [x_ex_countPreferredWith, x1]
  rw [hE]
  exact q_ireturn dX3_countPreferredWith_38 rfl rfl (by omega) (by omega) ⟨rfl, rfl⟩
def x_ex_find_14 (n : Nat) (att : Nat → Int32) : Nat → Nat → (Nat → Int32) → (Nat → Int32) → (Nat → Int32) × (Nat → Int32)
  | 0, _, cv_14, pf_14 => (cv_14, pf_14)
  | r + 1, k, cv_14, pf_14 => (if x_ex_isAdmissible n att (nI (r)) then (if x_ex_isCoveredByGreater cv_14 r (2 ^ n - 1) then x_ex_find_14 n att r (k + 1) (upd cv_14 r (1)) (upd pf_14 r (0)) else x_ex_find_14 n att r (k + 1) (upd cv_14 r (1)) (upd pf_14 r (1))) else (if x_ex_isCoveredByGreater cv_14 r (2 ^ n - 1) then x_ex_find_14 n att r (k + 1) (upd cv_14 r (1)) (upd pf_14 r (0)) else x_ex_find_14 n att r (k + 1) (upd cv_14 r (0)) (upd pf_14 r (0))))
set_option maxRecDepth 100000 in
set_option maxHeartbeats 8000000 in
theorem l_ex_find_14 {g : q_G} {h : q_H} {d mc ms kc ks : Nat} {Q : q_O → q_H → Prop} {x : Nat} {a : Nat} {n : Nat} {id : Nat → Int32} {wt : Nat → Int32} {ag : Nat → Int32} {tg : Nat → Int32} {att : Nat → Int32} {ni : Int32} {dy : Int32} {mn : Nat} {mv : Nat → Int32} {en : Int32} {wo : Int32} {br : Int32}  (hr_ex : q_R0 ≤ x) (hr_st : q_R0 ≤ a) (hs : a + 8 ≤ x ∨ x + 3 ≤ a) (ho_st_n : n ≤ 8) (ho_st_mn : mn ≤ 12) (g1_2 : 2 ^ n ≤ 2 ^ 8) (g1_2p : 1 ≤ 2 ^ n)  (hd : 3 ≤ d) (hkc : kc + 0 ≤ mc) (hks : ks + 0 ≤ ms) : ∀ (r k : Nat) (cv_14 : Nat → Int32) (pf_14 : Nat → Int32) (hh : q_H) (sex_14 : z_Ex hh x pf_14 cv_14 (2 ^ n - 1 + 1)) (sst_14 : z_S2 hh a n id wt ag tg att ni dy mn mv en wo br) (pH : q_same h hh x 3) (hk_14 : k + r = 2 ^ n - 1 + 1) (K : ∀ (r14_0 : Nat → Int32) (r14_1 : Nat → Int32), x_ex_find_14 n att r k cv_14 pf_14 = (r14_0, r14_1) → ∀ h2, z_Ex h2 x r14_1 r14_0 (2 ^ n - 1 + 1) → z_S2 h2 a n id wt ag tg att ni dy mn mv en wo br → q_same h h2 x 3 → q_W g mX3_find d mc ms Q kc ks 81 [q_u, q_u, q_u, q_u, q_u, q_u] [] h2), q_W g mX3_find d mc ms Q kc ks 14 [.ref (x), .ref (a), .int (nI (2 ^ n - 1)), .int (z_dn r), q_u, q_u] [] hh := by
  intro r
  induction r with
  | zero =>
    intro k cv_14 pf_14 hh sex_14 sst_14 pH hk_14 K
    have hr_ex := sex_14.r0
    have hb_ex_sc := sex_14.bsc
    have hr_st := sst_14.r0
    have hb_st_n := sst_14.bn
    have hb_st_mn := sst_14.bmn
    refine q_iload_n dX3_find_14 rfl ?_
    refine q_if_lt 81 dX3_find_15 (by decide) (fun b15 => ?_) (fun b15 => ?_)
    · refine q_forget 0 ?_
      refine q_forget 1 ?_
      refine q_forget 2 ?_
      refine q_forget 3 ?_
      change q_W _ _ _ _ _ _ _ _ _ [q_u, q_u, q_u, q_u, q_u, q_u] [] _
      exact K cv_14 pf_14 (by simp only [x_ex_find_14]) hh sex_14 sst_14 pH
    · exact absurd (by decide) b15
  | succ r ih =>
    intro k cv_14 pf_14 hh sex_14 sst_14 pH hk_14 K
    have hr_ex := sex_14.r0
    have hb_ex_sc := sex_14.bsc
    have hr_st := sst_14.r0
    have hb_st_n := sst_14.bn
    have hb_st_mn := sst_14.bmn
    refine q_iload_n dX3_find_14 rfl ?_
    refine q_if_lt 81 dX3_find_15 (by decide) (fun b15 => ?_) (fun b15 => ?_)
    · have b15 := (nI_ltI (a := r) (b := 0) (by omega) (by omega)).mp b15
      exact absurd b15 (by omega)
    · have b15 : ¬ (r < 0) := fun q => b15 ((nI_ltI (a := r) (b := 0) (by omega) (by omega)).mpr q)
      refine q_aload_n (by first | assumption | omega | decide) dX3_find_18 rfl ?_
      refine q_iload_n dX3_find_19 rfl ?_
      refine q_invS (mc' := 0) (ms' := 0) (d' := d - 1) (as := [.ref (a), .int (nI (r))]) dX3_find_20 kM_X3_isAdmissible kL_X3_40 kT_X3_isAdmissible rfl rfl rfl (Nat.le_of_ble_eq_true rfl) (by omega) (by decide) (by omega) (by omega) (e_ex_isAdmissible (d := d - 1) sst_14 (nI (r)) (by omega)) (q_kR ?_) q_xR
      change q_W _ _ _ _ _ _ _ _ 23 [.ref (x), .ref (a), .int (nI (2 ^ n - 1)), .int (nI (r)), q_u, q_u] [.int (z_b (x_ex_isAdmissible n att (nI (r))))] _
      refine q_istore dX3_find_23 (by decide) rfl ?_
      change q_W _ _ _ _ _ _ _ _ _ [.ref (x), .ref (a), .int (nI (2 ^ n - 1)), .int (nI (r)), .int (z_b (x_ex_isAdmissible n att (nI (r)))), q_u] [] _
      refine q_aload_n (by first | assumption | omega | decide) dX3_find_25 rfl ?_
      refine q_iload_n dX3_find_26 rfl ?_
      refine q_iload_n dX3_find_27 rfl ?_
      refine q_invV (mc' := 0) (ms' := 0) (d' := d - 1) (as := [.int (nI (r)), .int (nI (2 ^ n - 1))]) dX3_find_28 kM_X3_isCoveredByGreater kL_X3_55 kI_X3_isCoveredByGreater kS_X3_isCoveredByGreater rfl (kC_X3.1) sex_14.c0 rfl rfl (Nat.le_of_ble_eq_true rfl) (by omega) (by decide) (by omega) (by omega) (e_ex_isCoveredByGreater (d := d - 1) sex_14 r (2 ^ n - 1) (by omega) (by omega)) (q_kR ?_) q_xR
      change q_W _ _ _ _ _ _ _ _ 31 [.ref (x), .ref (a), .int (nI (2 ^ n - 1)), .int (nI (r)), .int (z_b (x_ex_isAdmissible n att (nI (r)))), q_u] [.int (z_b (x_ex_isCoveredByGreater cv_14 r (2 ^ n - 1)))] _
      refine q_istore dX3_find_31 (by decide) rfl ?_
      change q_W _ _ _ _ _ _ _ _ _ [.ref (x), .ref (a), .int (nI (2 ^ n - 1)), .int (nI (r)), .int (z_b (x_ex_isAdmissible n att (nI (r)))), .int (z_b (x_ex_isCoveredByGreater cv_14 r (2 ^ n - 1)))] [] _
      refine q_aload_n (by first | assumption | omega | decide) dX3_find_33 rfl ?_
      refine q_getf (k := 0) (v := .ref (x + 1)) kC_X3 kL_X3_9 rfl (by decide) dX3_find_34 sex_14.c0 rfl ?_
      refine q_iload_n dX3_find_37 rfl ?_
      refine q_iload dX3_find_38 rfl ?_
      refine q_if_eq 52 dX3_find_40 (by decide) (fun b40 => ?_) (fun b40 => ?_)
      · have b40 := z_b0n b40
        refine q_iconst (v := 0) dX3_find_52 rfl ?_
        refine q_zastN (j := r) (Or.inl rfl) dX3_find_53 sex_14.c1 (by omega) (by decide) ?_
        refine z_genW (B := fun H => z_Ex H x (upd pf_14 r (0)) cv_14 (2 ^ n - 1 + 1) ∧ z_S2 H a n id wt ag tg att ni dy mn mv en wo br ∧ q_same h H x 3) ⟨z_Ex.put1 sex_14, sst_14.keep (q_same.set (a := x + 1) (k := 1) (Nat.le_refl _) (by omega)) (by omega), pH.trans (q_same.set (by omega) (by omega))⟩ (fun h3 hB => ?_)
        obtain ⟨sex3, sst3, p3⟩ := hB
        have hb_ex_sc := sex3.bsc
        refine q_aload_n (by first | assumption | omega | decide) dX3_find_54 rfl ?_
        refine q_getf (k := 1) (v := .ref (x + 2)) kC_X3 kL_X3_15 rfl (by decide) dX3_find_55 sex3.c0 rfl ?_
        refine q_iload_n dX3_find_58 rfl ?_
        refine q_iload dX3_find_59 rfl ?_
        refine q_if_ne 69 dX3_find_61 (by decide) (fun b61 => ?_) (fun b61 => ?_)
        · have b61 := z_b1 b61
          exact absurd b61 b40
        · have b61 := z_b0n b61
          refine q_iload dX3_find_64 rfl ?_
          refine q_if_eq 73 dX3_find_66 (by decide) (fun b66 => ?_) (fun b66 => ?_)
          · have b66 := z_b0n b66
            refine q_iconst (v := 0) dX3_find_73 rfl ?_
            refine q_zastN (j := r) (Or.inl rfl) dX3_find_74 sex3.c2 (by omega) (by decide) ?_
            refine z_genW (B := fun H => z_Ex H x (upd pf_14 r (0)) (upd cv_14 r (0)) (2 ^ n - 1 + 1) ∧ z_S2 H a n id wt ag tg att ni dy mn mv en wo br ∧ q_same h H x 3) ⟨z_Ex.put2 sex3, sst3.keep (q_same.set (a := x + 2) (k := 1) (Nat.le_refl _) (by omega)) (by omega), p3.trans (q_same.set (by omega) (by omega))⟩ (fun h4 hB => ?_)
            obtain ⟨sex4, sst4, p4⟩ := hB
            have hb_ex_sc := sex4.bsc
            refine q_iinc (x := nI (r)) (v := z_dn r) dX3_find_75 rfl (z_dn_1 _) rfl ?_
            change q_W _ _ _ _ _ _ _ _ _ [.ref (x), .ref (a), .int (nI (2 ^ n - 1)), .int (z_dn r), .int (z_b (x_ex_isAdmissible n att (nI (r)))), .int (z_b (x_ex_isCoveredByGreater cv_14 r (2 ^ n - 1)))] [] _
            refine q_goto 14 dX3_find_78 (by decide) ?_
            refine q_forget 4 ?_
            refine q_forget 5 ?_
            change q_W _ _ _ _ _ _ _ _ _ [.ref (x), .ref (a), .int (nI (2 ^ n - 1)), .int (z_dn r), q_u, q_u] [] _
            exact ih (k + 1) (upd cv_14 r (0)) (upd pf_14 r (0)) h4 sex4 sst4 p4 (by omega) (fun r14_0 r14_1 e9 => K r14_0 r14_1 (by simp only [x_ex_find_14, if_neg b40, if_neg b66]; exact e9))
          · have b66 := z_b1 b66
            refine q_iconst (v := 1) dX3_find_69 rfl ?_
            refine q_goto 74 dX3_find_70 (by decide) ?_
            refine q_zastN (j := r) (Or.inr rfl) dX3_find_74 sex3.c2 (by omega) (by decide) ?_
            refine z_genW (B := fun H => z_Ex H x (upd pf_14 r (0)) (upd cv_14 r (1)) (2 ^ n - 1 + 1) ∧ z_S2 H a n id wt ag tg att ni dy mn mv en wo br ∧ q_same h H x 3) ⟨z_Ex.put2 sex3, sst3.keep (q_same.set (a := x + 2) (k := 1) (Nat.le_refl _) (by omega)) (by omega), p3.trans (q_same.set (by omega) (by omega))⟩ (fun h5 hB => ?_)
            obtain ⟨sex5, sst5, p5⟩ := hB
            have hb_ex_sc := sex5.bsc
            refine q_iinc (x := nI (r)) (v := z_dn r) dX3_find_75 rfl (z_dn_1 _) rfl ?_
            change q_W _ _ _ _ _ _ _ _ _ [.ref (x), .ref (a), .int (nI (2 ^ n - 1)), .int (z_dn r), .int (z_b (x_ex_isAdmissible n att (nI (r)))), .int (z_b (x_ex_isCoveredByGreater cv_14 r (2 ^ n - 1)))] [] _
            refine q_goto 14 dX3_find_78 (by decide) ?_
            refine q_forget 4 ?_
            refine q_forget 5 ?_
            change q_W _ _ _ _ _ _ _ _ _ [.ref (x), .ref (a), .int (nI (2 ^ n - 1)), .int (z_dn r), q_u, q_u] [] _
            exact ih (k + 1) (upd cv_14 r (1)) (upd pf_14 r (0)) h5 sex5 sst5 p5 (by omega) (fun r14_0 r14_1 e9 => K r14_0 r14_1 (by simp only [x_ex_find_14, if_neg b40, if_pos b66]; exact e9))
      · have b40 := z_b1 b40
        refine q_iload dX3_find_43 rfl ?_
        refine q_if_ne 52 dX3_find_45 (by decide) (fun b45 => ?_) (fun b45 => ?_)
        · have b45 := z_b1 b45
          refine q_iconst (v := 0) dX3_find_52 rfl ?_
          refine q_zastN (j := r) (Or.inl rfl) dX3_find_53 sex_14.c1 (by omega) (by decide) ?_
          refine z_genW (B := fun H => z_Ex H x (upd pf_14 r (0)) cv_14 (2 ^ n - 1 + 1) ∧ z_S2 H a n id wt ag tg att ni dy mn mv en wo br ∧ q_same h H x 3) ⟨z_Ex.put1 sex_14, sst_14.keep (q_same.set (a := x + 1) (k := 1) (Nat.le_refl _) (by omega)) (by omega), pH.trans (q_same.set (by omega) (by omega))⟩ (fun h6 hB => ?_)
          obtain ⟨sex6, sst6, p6⟩ := hB
          have hb_ex_sc := sex6.bsc
          refine q_aload_n (by first | assumption | omega | decide) dX3_find_54 rfl ?_
          refine q_getf (k := 1) (v := .ref (x + 2)) kC_X3 kL_X3_15 rfl (by decide) dX3_find_55 sex6.c0 rfl ?_
          refine q_iload_n dX3_find_58 rfl ?_
          refine q_iload dX3_find_59 rfl ?_
          refine q_if_ne 69 dX3_find_61 (by decide) (fun b61 => ?_) (fun b61 => ?_)
          · have b61 := z_b1 b61
            refine q_iconst (v := 1) dX3_find_69 rfl ?_
            refine q_goto 74 dX3_find_70 (by decide) ?_
            refine q_zastN (j := r) (Or.inr rfl) dX3_find_74 sex6.c2 (by omega) (by decide) ?_
            refine z_genW (B := fun H => z_Ex H x (upd pf_14 r (0)) (upd cv_14 r (1)) (2 ^ n - 1 + 1) ∧ z_S2 H a n id wt ag tg att ni dy mn mv en wo br ∧ q_same h H x 3) ⟨z_Ex.put2 sex6, sst6.keep (q_same.set (a := x + 2) (k := 1) (Nat.le_refl _) (by omega)) (by omega), p6.trans (q_same.set (by omega) (by omega))⟩ (fun h7 hB => ?_)
            obtain ⟨sex7, sst7, p7⟩ := hB
            have hb_ex_sc := sex7.bsc
            refine q_iinc (x := nI (r)) (v := z_dn r) dX3_find_75 rfl (z_dn_1 _) rfl ?_
            change q_W _ _ _ _ _ _ _ _ _ [.ref (x), .ref (a), .int (nI (2 ^ n - 1)), .int (z_dn r), .int (z_b (x_ex_isAdmissible n att (nI (r)))), .int (z_b (x_ex_isCoveredByGreater cv_14 r (2 ^ n - 1)))] [] _
            refine q_goto 14 dX3_find_78 (by decide) ?_
            refine q_forget 4 ?_
            refine q_forget 5 ?_
            change q_W _ _ _ _ _ _ _ _ _ [.ref (x), .ref (a), .int (nI (2 ^ n - 1)), .int (z_dn r), q_u, q_u] [] _
            exact ih (k + 1) (upd cv_14 r (1)) (upd pf_14 r (0)) h7 sex7 sst7 p7 (by omega) (fun r14_0 r14_1 e9 => K r14_0 r14_1 (by simp only [x_ex_find_14, if_pos b40, if_pos b45]; exact e9))
          · have b61 := z_b0n b61
            exact absurd b40 b61
        · have b45 := z_b0n b45
          refine q_iconst (v := 1) dX3_find_48 rfl ?_
          refine q_goto 53 dX3_find_49 (by decide) ?_
          refine q_zastN (j := r) (Or.inr rfl) dX3_find_53 sex_14.c1 (by omega) (by decide) ?_
          refine z_genW (B := fun H => z_Ex H x (upd pf_14 r (1)) cv_14 (2 ^ n - 1 + 1) ∧ z_S2 H a n id wt ag tg att ni dy mn mv en wo br ∧ q_same h H x 3) ⟨z_Ex.put1 sex_14, sst_14.keep (q_same.set (a := x + 1) (k := 1) (Nat.le_refl _) (by omega)) (by omega), pH.trans (q_same.set (by omega) (by omega))⟩ (fun h8 hB => ?_)
          obtain ⟨sex8, sst8, p8⟩ := hB
          have hb_ex_sc := sex8.bsc
          refine q_aload_n (by first | assumption | omega | decide) dX3_find_54 rfl ?_
          refine q_getf (k := 1) (v := .ref (x + 2)) kC_X3 kL_X3_15 rfl (by decide) dX3_find_55 sex8.c0 rfl ?_
          refine q_iload_n dX3_find_58 rfl ?_
          refine q_iload dX3_find_59 rfl ?_
          refine q_if_ne 69 dX3_find_61 (by decide) (fun b61 => ?_) (fun b61 => ?_)
          · have b61 := z_b1 b61
            refine q_iconst (v := 1) dX3_find_69 rfl ?_
            refine q_goto 74 dX3_find_70 (by decide) ?_
            refine q_zastN (j := r) (Or.inr rfl) dX3_find_74 sex8.c2 (by omega) (by decide) ?_
            refine z_genW (B := fun H => z_Ex H x (upd pf_14 r (1)) (upd cv_14 r (1)) (2 ^ n - 1 + 1) ∧ z_S2 H a n id wt ag tg att ni dy mn mv en wo br ∧ q_same h H x 3) ⟨z_Ex.put2 sex8, sst8.keep (q_same.set (a := x + 2) (k := 1) (Nat.le_refl _) (by omega)) (by omega), p8.trans (q_same.set (by omega) (by omega))⟩ (fun h9 hB => ?_)
            obtain ⟨sex9, sst9, p9⟩ := hB
            have hb_ex_sc := sex9.bsc
            refine q_iinc (x := nI (r)) (v := z_dn r) dX3_find_75 rfl (z_dn_1 _) rfl ?_
            change q_W _ _ _ _ _ _ _ _ _ [.ref (x), .ref (a), .int (nI (2 ^ n - 1)), .int (z_dn r), .int (z_b (x_ex_isAdmissible n att (nI (r)))), .int (z_b (x_ex_isCoveredByGreater cv_14 r (2 ^ n - 1)))] [] _
            refine q_goto 14 dX3_find_78 (by decide) ?_
            refine q_forget 4 ?_
            refine q_forget 5 ?_
            change q_W _ _ _ _ _ _ _ _ _ [.ref (x), .ref (a), .int (nI (2 ^ n - 1)), .int (z_dn r), q_u, q_u] [] _
            exact ih (k + 1) (upd cv_14 r (1)) (upd pf_14 r (1)) h9 sex9 sst9 p9 (by omega) (fun r14_0 r14_1 e9 => K r14_0 r14_1 (by simp only [x_ex_find_14, if_pos b40, if_neg b45]; exact e9))
          · have b61 := z_b0n b61
            exact absurd b40 b61
def x_ex_find (pf : Nat → Int32) (cv : Nat → Int32) (n : Nat) (att : Nat → Int32) : (Nat → Int32) × (Nat → Int32) × (Nat) := (match x_ex_find_14 n att (2 ^ n - 1 + 1) 0 cv pf with | (a10_0, a10_1) => (a10_1, a10_0, 2 ^ n - 1 + 1))
set_option maxRecDepth 100000 in
set_option maxHeartbeats 8000000 in
theorem e_ex_find {g : q_G} {h : q_H} {d : Nat} {x : Nat} {pf : Nat → Int32} {cv : Nat → Int32} {sc : Nat} (sex : z_Ex h x pf cv sc) {a : Nat} {n : Nat} {id : Nat → Int32} {wt : Nat → Int32} {ag : Nat → Int32} {tg : Nat → Int32} {att : Nat → Int32} {ni : Int32} {dy : Int32} {mn : Nat} {mv : Nat → Int32} {en : Int32} {wo : Int32} {br : Int32} (sst : z_S2 h a n id wt ag tg att ni dy mn mv en wo br)   (hs : a + 8 ≤ x ∨ x + 3 ≤ a)  (hd : 3 ≤ d) : q_Spec g mX3_find d 0 0 [.ref (x), .ref (a)] h (q_chg (.inl none) (fun h1 => z_Ex h1 x ((x_ex_find pf cv n att).1) ((x_ex_find pf cv n att).2.1) ((x_ex_find pf cv n att).2.2) ∧ z_S2 h1 a n id wt ag tg att ni dy mn mv en wo br ∧ q_same h h1 x 3)) := by
  have hr_ex := sex.r0
  have hb_ex_sc := sex.bsc
  have hr_st := sst.r0
  have hb_st_n := sst.bn
  have hb_st_mn := sst.bmn
  have ho_ex_sc := sex.bsc
  have ho_st_n := sst.bn
  have ho_st_mn := sst.bmn
  have p0 : q_same h h x 3 := q_same.rfl'
  refine q_enter (by decide +kernel) rfl rfl (Nat.le_of_ble_eq_true rfl) (fun hz => ?_)
  change q_W _ _ _ _ _ _ _ _ _ [.ref (x), .ref (a), q_u, q_u, q_u, q_u] [] _
  refine q_aload_n (by first | assumption | omega | decide) dX3_find_0 rfl ?_
  refine q_invV (mc' := 0) (ms' := 0) (d' := d - 1) (as := []) dX3_find_1 kM_X8_all kL_X3_22 kI_X8_all kS_X8_all rfl (kC_X8.1) sst.c0 rfl rfl (Nat.le_of_ble_eq_true rfl) (by omega) (by decide) (by omega) (by omega) (e_st_allN (d := d - 1) sst (by omega)) (q_kR ?_) q_xR
  have g1_2 : 2 ^ n ≤ 2 ^ 8 := z_pow8 sst.bn
  have g1_2p : 1 ≤ 2 ^ n := Nat.one_le_two_pow
  change q_W _ _ _ _ _ _ _ _ 4 [.ref (x), .ref (a), q_u, q_u, q_u, q_u] [.int (nI (2 ^ n - 1))] _
  refine q_istore_n dX3_find_4 (by decide) rfl ?_
  change q_W _ _ _ _ _ _ _ _ _ [.ref (x), .ref (a), .int (nI (2 ^ n - 1)), q_u, q_u, q_u] [] _
  refine q_aload_n (by first | assumption | omega | decide) dX3_find_5 rfl ?_
  refine q_iload_n dX3_find_6 rfl ?_
  refine q_iconst (v := 1) dX3_find_7 rfl ?_
  refine q_iaddN (a := 2 ^ n - 1) (b := 1) dX3_find_8 ?_
  change q_W _ _ _ _ _ _ _ _ _ _ [.int (nI (2 ^ n - 1 + 1)), .ref (x)] _
  refine q_putf (k := 2) kC_X3 kL_X3_18 rfl (by decide) rfl dX3_find_9 sex.c0 (Nat.le_of_ble_eq_true rfl) ⟨rfl, rfl⟩ rfl ?_
  refine z_genW (B := fun H => z_Ex H x pf cv (2 ^ n - 1 + 1) ∧ z_S2 H a n id wt ag tg att ni dy mn mv en wo br ∧ q_same h H x 3) ⟨z_Ex.put0 sex (sc' := 2 ^ n - 1 + 1) (hbsc := by omega), sst.keep (q_same.set (a := x) (k := 1) (Nat.le_refl _) (by omega)) (by omega), p0.trans (q_same.set (by omega) (by omega))⟩ (fun h2 hB => ?_)
  obtain ⟨sex2, sst2, p2⟩ := hB
  have hb_ex_sc := sex2.bsc
  refine q_iload_n dX3_find_12 rfl ?_
  refine q_istore_n dX3_find_13 (by decide) rfl ?_
  change q_W _ _ _ _ _ _ _ _ _ [.ref (x), .ref (a), .int (nI (2 ^ n - 1)), .int (nI (2 ^ n - 1)), q_u, q_u] [] _
  change q_W _ _ _ _ _ _ _ _ _ [.ref (x), .ref (a), .int (nI (2 ^ n - 1)), .int (z_dn (2 ^ n - 1 + 1)), q_u, q_u] [] _
  change q_W _ _ _ _ _ _ _ _ _ [.ref (x), .ref (a), .int (nI (2 ^ n - 1)), .int (z_dn (2 ^ n - 1 + 1)), q_u, q_u] [] _
  refine l_ex_find_14 hr_ex hr_st hs ho_st_n ho_st_mn g1_2 g1_2p (by omega) (by omega) (by omega) (2 ^ n - 1 + 1) 0 cv pf h2 sex2 sst2 p2 (by omega) (fun a10_0 a10_1 x10 h11 sex11 sst11 p11 => ?_)
  have hb_ex_sc := sex11.bsc
  change q_W _ _ _ _ _ _ _ _ 81 [q_u, q_u, q_u, q_u, q_u, q_u] [] _
  have hE : x_ex_find pf cv n att = (a10_1, a10_0, 2 ^ n - 1 + 1) := by simp only [x_ex_find, x10]
  rw [hE]
  exact q_return dX3_find_81 rfl (by omega) (by omega) ⟨rfl, sex11, sst11, p11⟩
def x_ex_countFrom (n : Nat) (att : Nat → Int32) (j : Nat) (xi : Int32) (xo : Int32) (F : Nat → Int32 → Int32 → Int32) : Int32 := (if x_ex_isFree n att xi then (if x_ex_isAttackedBy n att xo ((nI (2 ^ n - 1)) &&& (xo ^^^ (-1 : Int32))) then (if j ≤ n then (if j = n then 1 else (F (j + 1) (xi ||| ((1 : Int32) <<< ((nI (j)) &&& 31))) xo) + (F (j + 1) xi (xo ||| ((1 : Int32) <<< ((nI (j)) &&& 31))))) else 0) else 0) else 0)
set_option maxRecDepth 100000 in
set_option maxHeartbeats 8000000 in
theorem e_ex_countFrom {g : q_G} {h : q_H} {d : Nat} {a : Nat} {n : Nat} {id : Nat → Int32} {wt : Nat → Int32} {ag : Nat → Int32} {tg : Nat → Int32} {att : Nat → Int32} {ni : Int32} {dy : Int32} {mn : Nat} {mv : Nat → Int32} {en : Int32} {wo : Int32} {br : Int32} (sst : z_S2 h a n id wt ag tg att ni dy mn mv en wo br) {F : Nat → Int32 → Int32 → Int32} (j : Nat) (xi : Int32) (xo : Int32) (hj : j ≤ n) (IF : j < n → ∀ {g : q_G} {h : q_H} {d : Nat} (sst : z_S2 h a n id wt ag tg att ni dy mn mv en wo br) (j2 : Nat) (xi xo : Int32) (hj2 : j2 = j + 1) (hd : 2 * (8 - j) + 3 ≤ d), q_Spec g mX3_countFrom d 0 0 [.ref a, .int (nI j2), .int xi, .int xo] h (q_ret (some (.int (F j2 xi xo))) h)) (hd : 2 * (9 - j) + 3 ≤ d) : q_Spec g mX3_countFrom d 0 0 [.ref (a), .int (nI (j)), .int (xi), .int (xo)] h (q_ret ((some (.int (x_ex_countFrom n att j xi xo F)))) h) := by
  have hr_st := sst.r0
  have hb_st_n := sst.bn
  have hb_st_mn := sst.bmn
  have ho_st_n := sst.bn
  have ho_st_mn := sst.bmn
  refine q_enter (by decide +kernel) rfl rfl (Nat.le_of_ble_eq_true rfl) (fun hz => ?_)
  change q_W _ _ _ _ _ _ _ _ _ [.ref (a), .int (nI (j)), .int (xi), .int (xo), q_u] [] _
  refine q_aload_n (by first | assumption | omega | decide) dX3_countFrom_0 rfl ?_
  refine q_iload_n dX3_countFrom_1 rfl ?_
  refine q_invS (mc' := 0) (ms' := 0) (d' := d - 1) (as := [.ref (a), .int (xi)]) dX3_countFrom_2 kM_X3_isFree kL_X3_28 kT_X3_isFree rfl rfl rfl (Nat.le_of_ble_eq_true rfl) (by omega) (by decide) (by omega) (by omega) (e_ex_isFree (d := d - 1) sst xi (by omega)) (q_kR ?_) q_xR
  change q_W _ _ _ _ _ _ _ _ 5 [.ref (a), .int (nI (j)), .int (xi), .int (xo), q_u] [.int (z_b (x_ex_isFree n att xi))] _
  refine q_if_eq 24 dX3_countFrom_5 (by decide) (fun b5 => ?_) (fun b5 => ?_)
  · have b5 := z_b0n b5
    refine q_iconst (v := 1) dX3_countFrom_24 rfl ?_
    refine q_goto 29 dX3_countFrom_25 (by decide) ?_
    refine q_istore dX3_countFrom_29 (by decide) rfl ?_
    change q_W _ _ _ _ _ _ _ _ _ [.ref (a), .int (nI (j)), .int (xi), .int (xo), .int (1)] [] _
    refine q_iload dX3_countFrom_31 rfl ?_
    refine q_if_ne 44 dX3_countFrom_33 (by decide) (fun b33 => ?_) (fun b33 => ?_)
    · refine q_iconst (v := 0) dX3_countFrom_44 rfl ?_
      have hE : x_ex_countFrom n att j xi xo F = 0 := by simp only [x_ex_countFrom, if_neg b5]
      rw [hE]
      exact q_ireturn dX3_countFrom_45 rfl rfl (by omega) (by omega) ⟨rfl, rfl⟩
    · exact absurd b33 (by decide)
  · have b5 := z_b1 b5
    refine q_aload_n (by first | assumption | omega | decide) dX3_countFrom_8 rfl ?_
    refine q_iload_n dX3_countFrom_9 rfl ?_
    refine q_aload_n (by first | assumption | omega | decide) dX3_countFrom_10 rfl ?_
    refine q_invV (mc' := 0) (ms' := 0) (d' := d - 1) (as := []) dX3_countFrom_11 kM_X8_all kL_X3_22 kI_X8_all kS_X8_all rfl (kC_X8.1) sst.c0 rfl rfl (Nat.le_of_ble_eq_true rfl) (by omega) (by decide) (by omega) (by omega) (e_st_allN (d := d - 1) sst (by omega)) (q_kR ?_) q_xR
    have g1_2 : 2 ^ n ≤ 2 ^ 8 := z_pow8 sst.bn
    have g1_2p : 1 ≤ 2 ^ n := Nat.one_le_two_pow
    change q_W _ _ _ _ _ _ _ _ 14 [.ref (a), .int (nI (j)), .int (xi), .int (xo), q_u] [.int (nI (2 ^ n - 1)), .int (xo), .ref (a)] _
    refine q_iload_n dX3_countFrom_14 rfl ?_
    refine q_iconst (v := -1) dX3_countFrom_15 rfl ?_
    refine q_ixor dX3_countFrom_16 ?_
    refine q_iand dX3_countFrom_17 ?_
    refine q_invS (mc' := 0) (ms' := 0) (d' := d - 1) (as := [.ref (a), .int (xo), .int ((nI (2 ^ n - 1)) &&& (xo ^^^ (-1 : Int32)))]) dX3_countFrom_18 kM_X3_isAttackedBy kL_X3_32 kT_X3_isAttackedBy rfl rfl rfl (Nat.le_of_ble_eq_true rfl) (by omega) (by decide) (by omega) (by omega) (e_ex_isAttackedBy (d := d - 1) sst xo ((nI (2 ^ n - 1)) &&& (xo ^^^ (-1 : Int32))) (by omega)) (q_kR ?_) q_xR
    change q_W _ _ _ _ _ _ _ _ 21 [.ref (a), .int (nI (j)), .int (xi), .int (xo), q_u] [.int (z_b (x_ex_isAttackedBy n att xo ((nI (2 ^ n - 1)) &&& (xo ^^^ (-1 : Int32)))))] _
    refine q_if_ne 28 dX3_countFrom_21 (by decide) (fun b21 => ?_) (fun b21 => ?_)
    · have b21 := z_b1 b21
      refine q_iconst (v := 0) dX3_countFrom_28 rfl ?_
      refine q_istore dX3_countFrom_29 (by decide) rfl ?_
      change q_W _ _ _ _ _ _ _ _ _ [.ref (a), .int (nI (j)), .int (xi), .int (xo), .int (0)] [] _
      refine q_iload dX3_countFrom_31 rfl ?_
      refine q_if_ne 44 dX3_countFrom_33 (by decide) (fun b33 => ?_) (fun b33 => ?_)
      · exact absurd (by decide) b33
      · refine q_iload_n dX3_countFrom_36 rfl ?_
        refine q_aload_n (by first | assumption | omega | decide) dX3_countFrom_37 rfl ?_
        refine q_getf (k := 6) (v := .int (nI (n))) kC_X8 kL_X3_62 rfl (by decide) dX3_countFrom_38 sst.c0 rfl ?_
        refine q_icmp_le 46 dX3_countFrom_41 (by decide) (fun b41 => ?_) (fun b41 => ?_)
        · have b41 := (nI_leI (a := j) (b := n) (by omega) (by omega)).mp b41
          refine q_iload_n dX3_countFrom_46 rfl ?_
          refine q_aload_n (by first | assumption | omega | decide) dX3_countFrom_47 rfl ?_
          refine q_getf (k := 6) (v := .int (nI (n))) kC_X8 kL_X3_62 rfl (by decide) dX3_countFrom_48 sst.c0 rfl ?_
          refine q_icmp_ne 56 dX3_countFrom_51 (by decide) (fun b51 => ?_) (fun b51 => ?_)
          · have b51 : ¬ (j = n) := fun q => b51 ((nI_eq (a := j) (b := n) (by omega) (by omega)).mpr q)
            refine q_aload_n (by first | assumption | omega | decide) dX3_countFrom_56 rfl ?_
            refine q_iload_n dX3_countFrom_57 rfl ?_
            refine q_iconst (v := 1) dX3_countFrom_58 rfl ?_
            refine q_iaddN (a := j) (b := 1) dX3_countFrom_59 ?_
            change q_W _ _ _ _ _ _ _ _ _ _ [.int (nI (j + 1)), .ref (a)] _
            refine q_iload_n dX3_countFrom_60 rfl ?_
            refine q_iconst (v := 1) dX3_countFrom_61 rfl ?_
            refine q_iload_n dX3_countFrom_62 rfl ?_
            refine q_ishl dX3_countFrom_63 ?_
            refine q_ior dX3_countFrom_64 ?_
            refine q_iload_n dX3_countFrom_65 rfl ?_
            refine q_invS (mc' := 0) (ms' := 0) (d' := d - 1) (as := [.ref (a), .int (nI (j + 1)), .int (xi ||| ((1 : Int32) <<< ((nI (j)) &&& 31))), .int (xo)]) dX3_countFrom_66 kM_X3_countFrom kL_X3_36 kT_X3_countFrom rfl rfl rfl (Nat.le_of_ble_eq_true rfl) (by omega) (by decide) (by omega) (by omega) (IF (by omega) (d := d - 1) sst (j + 1) (xi ||| ((1 : Int32) <<< ((nI (j)) &&& 31))) xo (by omega) (by omega)) (q_kR ?_) q_xR
            change q_W _ _ _ _ _ _ _ _ 69 [.ref (a), .int (nI (j)), .int (xi), .int (xo), .int (0)] [.int (F (j + 1) (xi ||| ((1 : Int32) <<< ((nI (j)) &&& 31))) xo)] _
            refine q_aload_n (by first | assumption | omega | decide) dX3_countFrom_69 rfl ?_
            refine q_iload_n dX3_countFrom_70 rfl ?_
            refine q_iconst (v := 1) dX3_countFrom_71 rfl ?_
            refine q_iaddN (a := j) (b := 1) dX3_countFrom_72 ?_
            change q_W _ _ _ _ _ _ _ _ _ _ [.int (nI (j + 1)), .ref (a), .int (F (j + 1) (xi ||| ((1 : Int32) <<< ((nI (j)) &&& 31))) xo)] _
            refine q_iload_n dX3_countFrom_73 rfl ?_
            refine q_iload_n dX3_countFrom_74 rfl ?_
            refine q_iconst (v := 1) dX3_countFrom_75 rfl ?_
            refine q_iload_n dX3_countFrom_76 rfl ?_
            refine q_ishl dX3_countFrom_77 ?_
            refine q_ior dX3_countFrom_78 ?_
            refine q_invS (mc' := 0) (ms' := 0) (d' := d - 1) (as := [.ref (a), .int (nI (j + 1)), .int (xi), .int (xo ||| ((1 : Int32) <<< ((nI (j)) &&& 31)))]) dX3_countFrom_79 kM_X3_countFrom kL_X3_36 kT_X3_countFrom rfl rfl rfl (Nat.le_of_ble_eq_true rfl) (by omega) (by decide) (by omega) (by omega) (IF (by omega) (d := d - 1) sst (j + 1) xi (xo ||| ((1 : Int32) <<< ((nI (j)) &&& 31))) (by omega) (by omega)) (q_kR ?_) q_xR
            change q_W _ _ _ _ _ _ _ _ 82 [.ref (a), .int (nI (j)), .int (xi), .int (xo), .int (0)] [.int (F (j + 1) xi (xo ||| ((1 : Int32) <<< ((nI (j)) &&& 31)))), .int (F (j + 1) (xi ||| ((1 : Int32) <<< ((nI (j)) &&& 31))) xo)] _
            refine q_iadd dX3_countFrom_82 ?_
            have hE : x_ex_countFrom n att j xi xo F = (F (j + 1) (xi ||| ((1 : Int32) <<< ((nI (j)) &&& 31))) xo) + (F (j + 1) xi (xo ||| ((1 : Int32) <<< ((nI (j)) &&& 31)))) := by simp only [x_ex_countFrom, if_pos b5, if_pos b21, if_pos b41, if_neg b51]
            rw [hE]
            exact q_ireturn dX3_countFrom_83 rfl rfl (by omega) (by omega) ⟨rfl, rfl⟩
          · have b51 := (nI_eq (a := j) (b := n) (by omega) (by omega)).mp b51
            refine q_iconst (v := 1) dX3_countFrom_54 rfl ?_
            have hE : x_ex_countFrom n att j xi xo F = 1 := by simp only [x_ex_countFrom, if_pos b5, if_pos b21, if_pos b41, if_pos b51]
            rw [hE]
            exact q_ireturn dX3_countFrom_55 rfl rfl (by omega) (by omega) ⟨rfl, rfl⟩
        · have b41 : ¬ (j ≤ n) := fun q => b41 ((nI_leI (a := j) (b := n) (by omega) (by omega)).mpr q)
          refine q_iconst (v := 0) dX3_countFrom_44 rfl ?_
          have hE : x_ex_countFrom n att j xi xo F = 0 := by simp only [x_ex_countFrom, if_pos b5, if_pos b21, if_neg b41]
          rw [hE]
          exact q_ireturn dX3_countFrom_45 rfl rfl (by omega) (by omega) ⟨rfl, rfl⟩
    · have b21 := z_b0n b21
      refine q_iconst (v := 1) dX3_countFrom_24 rfl ?_
      refine q_goto 29 dX3_countFrom_25 (by decide) ?_
      refine q_istore dX3_countFrom_29 (by decide) rfl ?_
      change q_W _ _ _ _ _ _ _ _ _ [.ref (a), .int (nI (j)), .int (xi), .int (xo), .int (1)] [] _
      refine q_iload dX3_countFrom_31 rfl ?_
      refine q_if_ne 44 dX3_countFrom_33 (by decide) (fun b33 => ?_) (fun b33 => ?_)
      · refine q_iconst (v := 0) dX3_countFrom_44 rfl ?_
        have hE : x_ex_countFrom n att j xi xo F = 0 := by simp only [x_ex_countFrom, if_pos b5, if_neg b21]
        rw [hE]
        exact q_ireturn dX3_countFrom_45 rfl rfl (by omega) (by omega) ⟨rfl, rfl⟩
      · exact absurd b33 (by decide)
/-- the count from a slot: f slots may still follow -/
def x_cf (n : Nat) (att : Nat → Int32) : Nat → Nat → Int32 → Int32 → Int32
  | 0 => fun _ _ _ => 0
  | f + 1 => fun j xi xo => x_ex_countFrom n att j xi xo (x_cf n att f)
theorem e_cf {a : Nat} {n : Nat} {id : Nat → Int32} {wt : Nat → Int32} {ag : Nat → Int32} {tg : Nat → Int32} {att : Nat → Int32} {ni : Int32} {dy : Int32} {mn : Nat} {mv : Nat → Int32} {en : Int32} {wo : Int32} {br : Int32} : ∀ (f : Nat) {g : q_G} {h : q_H} {d : Nat} (sst : z_S2 h a n id wt ag tg att ni dy mn mv en wo br) (j : Nat) (xi xo : Int32) (hj : j ≤ n) (hf : n < f + j) (hd : 2 * (9 - j) + 3 ≤ d), q_Spec g mX3_countFrom d 0 0 [.ref a, .int (nI j), .int xi, .int xo] h (q_ret (some (.int (x_cf n att f j xi xo))) h) := by
  intro f
  induction f with
  | zero =>
    intro g h d sst j xi xo hj hf hd
    exact absurd hf (by omega)
  | succ f ih =>
    intro g h d sst j xi xo hj hf hd
    exact e_ex_countFrom (F := x_cf n att f) sst j xi xo hj (fun hjn => fun {g1 h1 d1} sst1 j2 xi1 xo1 hj2 hd1 => by
      subst hj2
      exact ih sst1 (j + 1) xi1 xo1 (by omega) (by omega) (by omega)) hd
def x_ex_countStableByLabels (n : Nat) (att : Nat → Int32) : Int32 := x_cf n att 9 0 0 0
set_option maxRecDepth 100000 in
set_option maxHeartbeats 8000000 in
theorem e_ex_countStableByLabels {g : q_G} {h : q_H} {d : Nat} {x : Nat} {pf : Nat → Int32} {cv : Nat → Int32} {sc : Nat} (sex : z_Ex h x pf cv sc) {a : Nat} {n : Nat} {id : Nat → Int32} {wt : Nat → Int32} {ag : Nat → Int32} {tg : Nat → Int32} {att : Nat → Int32} {ni : Int32} {dy : Int32} {mn : Nat} {mv : Nat → Int32} {en : Int32} {wo : Int32} {br : Int32} (sst : z_S2 h a n id wt ag tg att ni dy mn mv en wo br)     (hd : 22 ≤ d) : q_Spec g mX3_countStableByLabels d 0 0 [.ref (x), .ref (a)] h (q_ret ((some (.int (x_ex_countStableByLabels n att)))) h) := by
  have hr_ex := sex.r0
  have hb_ex_sc := sex.bsc
  have hr_st := sst.r0
  have hb_st_n := sst.bn
  have hb_st_mn := sst.bmn
  have ho_ex_sc := sex.bsc
  have ho_st_n := sst.bn
  have ho_st_mn := sst.bmn
  refine q_enter (by decide +kernel) rfl rfl (Nat.le_of_ble_eq_true rfl) (fun hz => ?_)
  change q_W _ _ _ _ _ _ _ _ _ [.ref (x), .ref (a)] [] _
  refine q_aload_n (by first | assumption | omega | decide) dX3_countStableByLabels_0 rfl ?_
  refine q_iconst (v := 0) dX3_countStableByLabels_1 rfl ?_
  refine q_iconst (v := 0) dX3_countStableByLabels_2 rfl ?_
  refine q_iconst (v := 0) dX3_countStableByLabels_3 rfl ?_
  refine q_invS (mc' := 0) (ms' := 0) (d' := d - 1) (as := [.ref (a), .int (0), .int (0), .int (0)]) dX3_countStableByLabels_4 kM_X3_countFrom kL_X3_36 kT_X3_countFrom rfl rfl rfl (Nat.le_of_ble_eq_true rfl) (by omega) (by decide) (by omega) (by omega) (e_cf (d := d - 1) 9 sst 0 0 0 (by omega) (by omega) (by omega)) (q_kR ?_) q_xR
  change q_W _ _ _ _ _ _ _ _ 7 [.ref (x), .ref (a)] [.int (x_cf n att 9 0 0 0)] _
  have hE : x_ex_countStableByLabels n att = x_cf n att 9 0 0 0 := by simp only [x_ex_countStableByLabels]
  rw [hE]
  exact q_ireturn dX3_countStableByLabels_7 rfl rfl (by omega) (by omega) ⟨rfl, rfl⟩
def x_cy_remain_17 (att : Nat → Int32) : Nat → Nat → (Int32) → (Int32)
  | 0, _, c17_1 => c17_1
  | r + 1, kk, c17_1 => (if ((att kk) &&& c17_1) = (0) then x_cy_remain_17 att r (kk + 1) (c17_1 &&& (((1 : Int32) <<< ((nI (kk)) &&& 31)) ^^^ (-1 : Int32))) else x_cy_remain_17 att r (kk + 1) c17_1)
set_option maxRecDepth 100000 in
set_option maxHeartbeats 8000000 in
theorem l_cy_remain_17 {g : q_G} {h : q_H} {d mc ms kc ks : Nat} {Q : q_O → q_H → Prop} {a : Nat} {n : Nat} {id : Nat → Int32} {wt : Nat → Int32} {ag : Nat → Int32} {tg : Nat → Int32} {att : Nat → Int32} {ni : Int32} {dy : Int32} {mn : Nat} {mv : Nat → Int32} {en : Int32} {wo : Int32} {br : Int32} {k : Nat} (sst : z_S2 h a n id wt ag tg att ni dy mn mv en wo br)  (ho_st_n : n ≤ 8) (ho_st_mn : mn ≤ 12) (g1_2 : 2 ^ n ≤ 2 ^ 8) (g1_2p : 1 ≤ 2 ^ n) (b12 : ¬ (n ≤ k))  (hd : 0 ≤ d) (hkc : kc + 0 ≤ mc) (hks : ks + 0 ≤ ms) : ∀ (r kk : Nat) (c17_1 : Int32) (hk_17 : kk + r = n) (K : ∀ (r17_0 : Int32), x_cy_remain_17 att r kk c17_1 = r17_0 → q_W g mX1_remain d mc ms Q kc ks 50 [.ref (a), .int (r17_0), .int (nI (k)), q_u] [] h), q_W g mX1_remain d mc ms Q kc ks 17 [.ref (a), .int (c17_1), .int (nI (k)), .int (nI (kk))] [] h := by
  intro r
  induction r with
  | zero =>
    intro kk c17_1  hk_17 K
    have hr_st := sst.r0
    have hb_st_n := sst.bn
    have hb_st_mn := sst.bmn
    refine q_iload_n dX1_remain_17 rfl ?_
    refine q_aload_n (by first | assumption | omega | decide) dX1_remain_18 rfl ?_
    refine q_getf (k := 6) (v := .int (nI (n))) kC_X8 kL_X1_15 rfl (by decide) dX1_remain_19 sst.c0 rfl ?_
    refine q_icmp_ge 50 dX1_remain_22 (by decide) (fun b22 => ?_) (fun b22 => ?_)
    · have b22 := (nI_leI (a := n) (b := kk) (by omega) (by omega)).mp b22
      refine q_forget 3 ?_
      change q_W _ _ _ _ _ _ _ _ _ [.ref (a), .int (c17_1), .int (nI (k)), q_u] [] _
      exact K c17_1 (by simp only [x_cy_remain_17])
    · have b22 : ¬ (n ≤ kk) := fun q => b22 ((nI_leI (a := n) (b := kk) (by omega) (by omega)).mpr q)
      exact absurd b22 (by omega)
  | succ r ih =>
    intro kk c17_1  hk_17 K
    have hr_st := sst.r0
    have hb_st_n := sst.bn
    have hb_st_mn := sst.bmn
    refine q_iload_n dX1_remain_17 rfl ?_
    refine q_aload_n (by first | assumption | omega | decide) dX1_remain_18 rfl ?_
    refine q_getf (k := 6) (v := .int (nI (n))) kC_X8 kL_X1_15 rfl (by decide) dX1_remain_19 sst.c0 rfl ?_
    refine q_icmp_ge 50 dX1_remain_22 (by decide) (fun b22 => ?_) (fun b22 => ?_)
    · have b22 := (nI_leI (a := n) (b := kk) (by omega) (by omega)).mp b22
      exact absurd b22 (by omega)
    · have b22 : ¬ (n ≤ kk) := fun q => b22 ((nI_leI (a := n) (b := kk) (by omega) (by omega)).mpr q)
      refine q_aload_n (by first | assumption | omega | decide) dX1_remain_25 rfl ?_
      refine q_getf (k := 4) (v := .ref (a + 5)) kC_X8 kL_X1_19 rfl (by decide) dX1_remain_26 sst.c0 rfl ?_
      refine q_iload_n dX1_remain_29 rfl ?_
      refine q_ialdN (j := kk) (f := att) dX1_remain_30 sst.c5 (by omega) (by decide) ?_
      change q_W _ _ _ _ _ _ _ _ _ _ [.int (att kk)] _
      refine q_iload_n dX1_remain_31 rfl ?_
      refine q_iand dX1_remain_32 ?_
      refine q_if_ne 44 dX1_remain_33 (by decide) (fun b33 => ?_) (fun b33 => ?_)
      · refine q_iinc (x := nI (kk)) (v := nI (kk + 1)) dX1_remain_44 rfl (nI_add _ 1) rfl ?_
        change q_W _ _ _ _ _ _ _ _ _ [.ref (a), .int (c17_1), .int (nI (k)), .int (nI (kk + 1))] [] _
        refine q_goto 17 dX1_remain_47 (by decide) ?_
        change q_W _ _ _ _ _ _ _ _ _ [.ref (a), .int (c17_1), .int (nI (k)), .int (nI (kk + 1))] [] _
        exact ih (kk + 1) c17_1 (by omega) (fun r17_0 e9 => K r17_0 (by simp only [x_cy_remain_17, if_neg b33]; exact e9))
      · refine q_iload_n dX1_remain_36 rfl ?_
        refine q_iconst (v := 1) dX1_remain_37 rfl ?_
        refine q_iload_n dX1_remain_38 rfl ?_
        refine q_ishl dX1_remain_39 ?_
        refine q_iconst (v := -1) dX1_remain_40 rfl ?_
        refine q_ixor dX1_remain_41 ?_
        refine q_iand dX1_remain_42 ?_
        refine q_istore_n dX1_remain_43 (by decide) rfl ?_
        change q_W _ _ _ _ _ _ _ _ _ [.ref (a), .int (c17_1 &&& (((1 : Int32) <<< ((nI (kk)) &&& 31)) ^^^ (-1 : Int32))), .int (nI (k)), .int (nI (kk))] [] _
        refine q_iinc (x := nI (kk)) (v := nI (kk + 1)) dX1_remain_44 rfl (nI_add _ 1) rfl ?_
        change q_W _ _ _ _ _ _ _ _ _ [.ref (a), .int (c17_1 &&& (((1 : Int32) <<< ((nI (kk)) &&& 31)) ^^^ (-1 : Int32))), .int (nI (k)), .int (nI (kk + 1))] [] _
        refine q_goto 17 dX1_remain_47 (by decide) ?_
        change q_W _ _ _ _ _ _ _ _ _ [.ref (a), .int (c17_1 &&& (((1 : Int32) <<< ((nI (kk)) &&& 31)) ^^^ (-1 : Int32))), .int (nI (k)), .int (nI (kk + 1))] [] _
        exact ih (kk + 1) (c17_1 &&& (((1 : Int32) <<< ((nI (kk)) &&& 31)) ^^^ (-1 : Int32))) (by omega) (fun r17_0 e9 => K r17_0 (by simp only [x_cy_remain_17, if_pos b33]; exact e9))
def x_cy_remain_7 (n : Nat) (att : Nat → Int32) : Nat → Nat → (Int32) → (Int32)
  | 0, _, c7_1 => c7_1
  | r + 1, k, c7_1 => (let a2_0 := x_cy_remain_17 att n 0 c7_1; x_cy_remain_7 n att r (k + 1) a2_0)
set_option maxRecDepth 100000 in
set_option maxHeartbeats 8000000 in
theorem l_cy_remain_7 {g : q_G} {h : q_H} {d mc ms kc ks : Nat} {Q : q_O → q_H → Prop} {a : Nat} {n : Nat} {id : Nat → Int32} {wt : Nat → Int32} {ag : Nat → Int32} {tg : Nat → Int32} {att : Nat → Int32} {ni : Int32} {dy : Int32} {mn : Nat} {mv : Nat → Int32} {en : Int32} {wo : Int32} {br : Int32} (sst : z_S2 h a n id wt ag tg att ni dy mn mv en wo br)  (ho_st_n : n ≤ 8) (ho_st_mn : mn ≤ 12) (g1_2 : 2 ^ n ≤ 2 ^ 8) (g1_2p : 1 ≤ 2 ^ n)  (hd : 0 ≤ d) (hkc : kc + 0 ≤ mc) (hks : ks + 0 ≤ ms) : ∀ (r k : Nat) (c7_1 : Int32) (hk_7 : k + r = n) (K : ∀ (r7_0 : Int32), x_cy_remain_7 n att r k c7_1 = r7_0 → q_W g mX1_remain d mc ms Q kc ks 56 [q_u, .int (r7_0), q_u, q_u] [] h), q_W g mX1_remain d mc ms Q kc ks 7 [.ref (a), .int (c7_1), .int (nI (k)), q_u] [] h := by
  intro r
  induction r with
  | zero =>
    intro k c7_1  hk_7 K
    have hr_st := sst.r0
    have hb_st_n := sst.bn
    have hb_st_mn := sst.bmn
    refine q_iload_n dX1_remain_7 rfl ?_
    refine q_aload_n (by first | assumption | omega | decide) dX1_remain_8 rfl ?_
    refine q_getf (k := 6) (v := .int (nI (n))) kC_X8 kL_X1_15 rfl (by decide) dX1_remain_9 sst.c0 rfl ?_
    refine q_icmp_ge 56 dX1_remain_12 (by decide) (fun b12 => ?_) (fun b12 => ?_)
    · have b12 := (nI_leI (a := n) (b := k) (by omega) (by omega)).mp b12
      refine q_forget 0 ?_
      refine q_forget 2 ?_
      change q_W _ _ _ _ _ _ _ _ _ [q_u, .int (c7_1), q_u, q_u] [] _
      exact K c7_1 (by simp only [x_cy_remain_7])
    · have b12 : ¬ (n ≤ k) := fun q => b12 ((nI_leI (a := n) (b := k) (by omega) (by omega)).mpr q)
      exact absurd b12 (by omega)
  | succ r ih =>
    intro k c7_1  hk_7 K
    have hr_st := sst.r0
    have hb_st_n := sst.bn
    have hb_st_mn := sst.bmn
    refine q_iload_n dX1_remain_7 rfl ?_
    refine q_aload_n (by first | assumption | omega | decide) dX1_remain_8 rfl ?_
    refine q_getf (k := 6) (v := .int (nI (n))) kC_X8 kL_X1_15 rfl (by decide) dX1_remain_9 sst.c0 rfl ?_
    refine q_icmp_ge 56 dX1_remain_12 (by decide) (fun b12 => ?_) (fun b12 => ?_)
    · have b12 := (nI_leI (a := n) (b := k) (by omega) (by omega)).mp b12
      exact absurd b12 (by omega)
    · have b12 : ¬ (n ≤ k) := fun q => b12 ((nI_leI (a := n) (b := k) (by omega) (by omega)).mpr q)
      refine q_iconst (v := 0) dX1_remain_15 rfl ?_
      refine q_istore_n dX1_remain_16 (by decide) rfl ?_
      change q_W _ _ _ _ _ _ _ _ _ [.ref (a), .int (c7_1), .int (nI (k)), .int (0)] [] _
      change q_W _ _ _ _ _ _ _ _ _ [.ref (a), .int (c7_1), .int (nI (k)), .int (0)] [] _
      refine l_cy_remain_17 sst ho_st_n ho_st_mn g1_2 g1_2p b12 (by omega) (by omega) (by omega) n 0 c7_1 (by omega) (fun a2_0 x2 => ?_)
      change q_W _ _ _ _ _ _ _ _ 50 [.ref (a), .int (a2_0), .int (nI (k)), q_u] [] _
      refine q_iinc (x := nI (k)) (v := nI (k + 1)) dX1_remain_50 rfl (nI_add _ 1) rfl ?_
      change q_W _ _ _ _ _ _ _ _ _ [.ref (a), .int (a2_0), .int (nI (k + 1)), q_u] [] _
      refine q_goto 7 dX1_remain_53 (by decide) ?_
      change q_W _ _ _ _ _ _ _ _ _ [.ref (a), .int (a2_0), .int (nI (k + 1)), q_u] [] _
      exact ih (k + 1) a2_0 (by omega) (fun r7_0 e9 => K r7_0 (by simp only [x_cy_remain_7, x2]; exact e9))
def x_cy_remain (n : Nat) (att : Nat → Int32) : Bool := (let a4_0 := x_cy_remain_7 n att n 0 (nI (2 ^ n - 1)); (if (a4_0) = (0) then false else true))
set_option maxRecDepth 100000 in
set_option maxHeartbeats 8000000 in
theorem e_cy_remain {g : q_G} {h : q_H} {d : Nat} {a : Nat} {n : Nat} {id : Nat → Int32} {wt : Nat → Int32} {ag : Nat → Int32} {tg : Nat → Int32} {att : Nat → Int32} {ni : Int32} {dy : Int32} {mn : Nat} {mv : Nat → Int32} {en : Int32} {wo : Int32} {br : Int32} (sst : z_S2 h a n id wt ag tg att ni dy mn mv en wo br)     (hd : 1 ≤ d) : q_Spec g mX1_remain d 0 0 [.ref (a)] h (q_ret ((some (.int (z_b (x_cy_remain n att))))) h) := by
  have hr_st := sst.r0
  have hb_st_n := sst.bn
  have hb_st_mn := sst.bmn
  have ho_st_n := sst.bn
  have ho_st_mn := sst.bmn
  refine q_enter (by decide +kernel) rfl rfl (Nat.le_of_ble_eq_true rfl) (fun hz => ?_)
  change q_W _ _ _ _ _ _ _ _ _ [.ref (a), q_u, q_u, q_u] [] _
  refine q_aload_n (by first | assumption | omega | decide) dX1_remain_0 rfl ?_
  refine q_invV (mc' := 0) (ms' := 0) (d' := d - 1) (as := []) dX1_remain_1 kM_X8_all kL_X1_9 kI_X8_all kS_X8_all rfl (kC_X8.1) sst.c0 rfl rfl (Nat.le_of_ble_eq_true rfl) (by omega) (by decide) (by omega) (by omega) (e_st_allN (d := d - 1) sst (by omega)) (q_kR ?_) q_xR
  have g1_2 : 2 ^ n ≤ 2 ^ 8 := z_pow8 sst.bn
  have g1_2p : 1 ≤ 2 ^ n := Nat.one_le_two_pow
  change q_W _ _ _ _ _ _ _ _ 4 [.ref (a), q_u, q_u, q_u] [.int (nI (2 ^ n - 1))] _
  refine q_istore_n dX1_remain_4 (by decide) rfl ?_
  change q_W _ _ _ _ _ _ _ _ _ [.ref (a), .int (nI (2 ^ n - 1)), q_u, q_u] [] _
  refine q_iconst (v := 0) dX1_remain_5 rfl ?_
  refine q_istore_n dX1_remain_6 (by decide) rfl ?_
  change q_W _ _ _ _ _ _ _ _ _ [.ref (a), .int (nI (2 ^ n - 1)), .int (0), q_u] [] _
  change q_W _ _ _ _ _ _ _ _ _ [.ref (a), .int (nI (2 ^ n - 1)), .int (0), q_u] [] _
  refine l_cy_remain_7 sst ho_st_n ho_st_mn g1_2 g1_2p (by omega) (by omega) (by omega) n 0 (nI (2 ^ n - 1)) (by omega) (fun a4_0 x4 => ?_)
  change q_W _ _ _ _ _ _ _ _ 56 [q_u, .int (a4_0), q_u, q_u] [] _
  refine q_iload_n dX1_remain_56 rfl ?_
  refine q_if_eq 64 dX1_remain_57 (by decide) (fun b57 => ?_) (fun b57 => ?_)
  · refine q_iconst (v := 0) dX1_remain_64 rfl ?_
    have hE : x_cy_remain n att = false := by simp only [x_cy_remain, x4, if_pos b57]
    rw [hE]
    exact q_ireturn dX1_remain_65 rfl rfl (by omega) (by omega) ⟨rfl, rfl⟩
  · refine q_iconst (v := 1) dX1_remain_60 rfl ?_
    refine q_goto 65 dX1_remain_61 (by decide) ?_
    have hE : x_cy_remain n att = true := by simp only [x_cy_remain, x4, if_neg b57]
    rw [hE]
    exact q_ireturn dX1_remain_65 rfl rfl (by omega) (by omega) ⟨rfl, rfl⟩
def x_cy_meetsPath_21 (f : Nat → Int32) (j : Nat) (xp : Int32) (P : Nat → Int32 → Bool) : Nat → Nat → (Unit) ⊕ (Bool)
  | 0, _ => .inl ()
  | r + 1, k => (if z_has (f j) k then (if P k (xp ||| ((1 : Int32) <<< ((nI (j)) &&& 31))) then .inr true else x_cy_meetsPath_21 f j xp P r (k + 1) ) else x_cy_meetsPath_21 f j xp P r (k + 1) )
set_option maxRecDepth 100000 in
set_option maxHeartbeats 8000000 in
theorem l_cy_meetsPath_21 {g : q_G} {h : q_H} {d mc ms kc ks : Nat} {Q : q_O → q_H → Prop} {q : Nat} {f : Nat → Int32} {j : Nat} {xp : Int32} {dp : Nat} {P : Nat → Int32 → Bool} (sat : z_I8 h q f)  (hj : j < 8) (hdp : dp ≤ 8) (b13 : dp < 8) (IM : dp < 8 → ∀ {g : q_G} {h : q_H} {d : Nat} (sat : z_I8 h q f) (j : Nat) (xp : Int32) (hj : j < 8) (hd : (8 - (dp + 1)) + 3 ≤ d), q_Spec g mX1_meetsPath d 0 0 [.ref q, .int (nI j), .int xp, .int (nI (dp + 1))] h (q_ret (some (.int (z_b (P j xp)))) h)) (hd : (8 - dp) + 3 ≤ d) (hkc : kc + 0 ≤ mc) (hks : ks + 0 ≤ ms) : ∀ (r k : Nat)  (hk_21 : k + r = 8) (K : ∀ (_ : Unit), x_cy_meetsPath_21 f j xp P r k  = .inl () → q_W g mX1_meetsPath d mc ms Q kc ks 64 [q_u, q_u, q_u, q_u, q_u] [] h) (K2 : ∀ z, x_cy_meetsPath_21 f j xp P r k  = .inr z → ∀ o h1, q_ret ((some (.int (z_b z)))) h o h1 → Q o h1), q_W g mX1_meetsPath d mc ms Q kc ks 21 [.ref (q), .int (nI (j)), .int (xp), .int (nI (dp)), .int (nI (k))] [] h := by
  intro r
  induction r with
  | zero =>
    intro k   hk_21 K K2
    have hr_at := sat.r0
    refine q_iload dX1_meetsPath_21 rfl ?_
    refine q_bipush (v := 8) dX1_meetsPath_23 rfl ?_
    refine q_icmp_ge 64 dX1_meetsPath_25 (by decide) (fun b25 => ?_) (fun b25 => ?_)
    · have b25 := (nI_leI (a := 8) (b := k) (by omega) (by omega)).mp b25
      refine q_forget 0 ?_
      refine q_forget 1 ?_
      refine q_forget 2 ?_
      refine q_forget 3 ?_
      refine q_forget 4 ?_
      change q_W _ _ _ _ _ _ _ _ _ [q_u, q_u, q_u, q_u, q_u] [] _
      exact K () (by simp only [x_cy_meetsPath_21])
    · have b25 : ¬ (8 ≤ k) := fun q => b25 ((nI_leI (a := 8) (b := k) (by omega) (by omega)).mpr q)
      exact absurd b25 (by omega)
  | succ r ih =>
    intro k   hk_21 K K2
    have hr_at := sat.r0
    refine q_iload dX1_meetsPath_21 rfl ?_
    refine q_bipush (v := 8) dX1_meetsPath_23 rfl ?_
    refine q_icmp_ge 64 dX1_meetsPath_25 (by decide) (fun b25 => ?_) (fun b25 => ?_)
    · have b25 := (nI_leI (a := 8) (b := k) (by omega) (by omega)).mp b25
      exact absurd b25 (by omega)
    · have b25 : ¬ (8 ≤ k) := fun q => b25 ((nI_leI (a := 8) (b := k) (by omega) (by omega)).mpr q)
      refine q_aload_n (by first | assumption | omega | decide) dX1_meetsPath_28 rfl ?_
      refine q_iload_n dX1_meetsPath_29 rfl ?_
      refine q_ialdN (j := j) (f := f) dX1_meetsPath_30 sat.c0 (by omega) (by decide) ?_
      change q_W _ _ _ _ _ _ _ _ _ _ [.int (f j)] _
      refine q_iload dX1_meetsPath_31 rfl ?_
      refine q_invSN (mc' := 0) (ms' := 0) (d' := d - 1) (as := [.int (f j), .int (nI (k))]) dX1_meetsPath_33 kM_X10_has kN_X1_29 kT_X10_has rfl rfl rfl (Nat.le_of_ble_eq_true rfl) (by omega) (by decide) (by omega) (by omega) (e_has (d := d - 1)) (q_kR ?_) q_xR
      change q_W _ _ _ _ _ _ _ _ 36 [.ref (q), .int (nI (j)), .int (xp), .int (nI (dp)), .int (nI (k))] [.int (z_b (z_has (f j) k))] _
      refine q_if_eq 58 dX1_meetsPath_36 (by decide) (fun b36 => ?_) (fun b36 => ?_)
      · have b36 := z_b0n b36
        refine q_iinc (x := nI (k)) (v := nI (k + 1)) dX1_meetsPath_58 rfl (nI_add _ 1) rfl ?_
        change q_W _ _ _ _ _ _ _ _ _ [.ref (q), .int (nI (j)), .int (xp), .int (nI (dp)), .int (nI (k + 1))] [] _
        refine q_goto 21 dX1_meetsPath_61 (by decide) ?_
        change q_W _ _ _ _ _ _ _ _ _ [.ref (q), .int (nI (j)), .int (xp), .int (nI (dp)), .int (nI (k + 1))] [] _
        exact ih (k + 1)  (by omega) (fun _ e9 => K () (by simp only [x_cy_meetsPath_21, if_neg b36]; exact e9)) (fun z9 e9 => K2 z9 (by simp only [x_cy_meetsPath_21, if_neg b36]; exact e9))
      · have b36 := z_b1 b36
        refine q_aload_n (by first | assumption | omega | decide) dX1_meetsPath_39 rfl ?_
        refine q_iload dX1_meetsPath_40 rfl ?_
        refine q_iload_n dX1_meetsPath_42 rfl ?_
        refine q_iconst (v := 1) dX1_meetsPath_43 rfl ?_
        refine q_iload_n dX1_meetsPath_44 rfl ?_
        refine q_ishl dX1_meetsPath_45 ?_
        refine q_ior dX1_meetsPath_46 ?_
        refine q_iload_n dX1_meetsPath_47 rfl ?_
        refine q_iconst (v := 1) dX1_meetsPath_48 rfl ?_
        refine q_iaddN (a := dp) (b := 1) dX1_meetsPath_49 ?_
        change q_W _ _ _ _ _ _ _ _ _ _ [.int (nI (dp + 1)), .int (xp ||| ((1 : Int32) <<< ((nI (j)) &&& 31))), .int (nI (k)), .ref (q)] _
        refine q_invS (mc' := 0) (ms' := 0) (d' := d - 1) (as := [.ref (q), .int (nI (k)), .int (xp ||| ((1 : Int32) <<< ((nI (j)) &&& 31))), .int (nI (dp + 1))]) dX1_meetsPath_50 kM_X1_meetsPath kL_X1_23 kT_X1_meetsPath rfl rfl rfl (Nat.le_of_ble_eq_true rfl) (by omega) (by decide) (by omega) (by omega) (IM (by omega) (d := d - 1) sat k (xp ||| ((1 : Int32) <<< ((nI (j)) &&& 31))) (by omega) (by omega)) (q_kR ?_) q_xR
        change q_W _ _ _ _ _ _ _ _ 53 [.ref (q), .int (nI (j)), .int (xp), .int (nI (dp)), .int (nI (k))] [.int (z_b (P k (xp ||| ((1 : Int32) <<< ((nI (j)) &&& 31)))))] _
        refine q_if_eq 58 dX1_meetsPath_53 (by decide) (fun b53 => ?_) (fun b53 => ?_)
        · have b53 := z_b0n b53
          refine q_iinc (x := nI (k)) (v := nI (k + 1)) dX1_meetsPath_58 rfl (nI_add _ 1) rfl ?_
          change q_W _ _ _ _ _ _ _ _ _ [.ref (q), .int (nI (j)), .int (xp), .int (nI (dp)), .int (nI (k + 1))] [] _
          refine q_goto 21 dX1_meetsPath_61 (by decide) ?_
          change q_W _ _ _ _ _ _ _ _ _ [.ref (q), .int (nI (j)), .int (xp), .int (nI (dp)), .int (nI (k + 1))] [] _
          exact ih (k + 1)  (by omega) (fun _ e9 => K () (by simp only [x_cy_meetsPath_21, if_pos b36, if_neg b53]; exact e9)) (fun z9 e9 => K2 z9 (by simp only [x_cy_meetsPath_21, if_pos b36, if_neg b53]; exact e9))
        · have b53 := z_b1 b53
          refine q_iconst (v := 1) dX1_meetsPath_56 rfl ?_
          exact q_ireturn dX1_meetsPath_57 rfl rfl (by omega) (by omega) (K2 true (by simp only [x_cy_meetsPath_21, if_pos b36, if_pos b53]) _ _ ⟨rfl, rfl⟩)
def x_cy_meetsPath (f : Nat → Int32) (j : Nat) (xp : Int32) (dp : Nat) (P : Nat → Int32 → Bool) : Bool := (if z_has xp j then true else (if dp < 8 then (match x_cy_meetsPath_21 f j xp P 8 0 with | .inl () => false | .inr zz => zz) else false))
set_option maxRecDepth 100000 in
set_option maxHeartbeats 8000000 in
theorem e_cy_meetsPath {g : q_G} {h : q_H} {d : Nat} {q : Nat} {f : Nat → Int32} (sat : z_I8 h q f) {P : Nat → Int32 → Bool} (j : Nat) (xp : Int32) (dp : Nat) (hj : j < 8) (hdp : dp ≤ 8) (IM : dp < 8 → ∀ {g : q_G} {h : q_H} {d : Nat} (sat : z_I8 h q f) (j : Nat) (xp : Int32) (hj : j < 8) (hd : (8 - (dp + 1)) + 3 ≤ d), q_Spec g mX1_meetsPath d 0 0 [.ref q, .int (nI j), .int xp, .int (nI (dp + 1))] h (q_ret (some (.int (z_b (P j xp)))) h)) (hd : (8 - dp) + 3 ≤ d) : q_Spec g mX1_meetsPath d 0 0 [.ref (q), .int (nI (j)), .int (xp), .int (nI (dp))] h (q_ret ((some (.int (z_b (x_cy_meetsPath f j xp dp P))))) h) := by
  have hr_at := sat.r0
  refine q_enter (by decide +kernel) rfl rfl (Nat.le_of_ble_eq_true rfl) (fun hz => ?_)
  change q_W _ _ _ _ _ _ _ _ _ [.ref (q), .int (nI (j)), .int (xp), .int (nI (dp)), q_u] [] _
  refine q_iload_n dX1_meetsPath_0 rfl ?_
  refine q_iload_n dX1_meetsPath_1 rfl ?_
  refine q_invSN (mc' := 0) (ms' := 0) (d' := d - 1) (as := [.int (xp), .int (nI (j))]) dX1_meetsPath_2 kM_X10_has kN_X1_29 kT_X10_has rfl rfl rfl (Nat.le_of_ble_eq_true rfl) (by omega) (by decide) (by omega) (by omega) (e_has (d := d - 1)) (q_kR ?_) q_xR
  change q_W _ _ _ _ _ _ _ _ 5 [.ref (q), .int (nI (j)), .int (xp), .int (nI (dp)), q_u] [.int (z_b (z_has xp j))] _
  refine q_if_eq 10 dX1_meetsPath_5 (by decide) (fun b5 => ?_) (fun b5 => ?_)
  · have b5 := z_b0n b5
    refine q_iload_n dX1_meetsPath_10 rfl ?_
    refine q_bipush (v := 8) dX1_meetsPath_11 rfl ?_
    refine q_icmp_lt 18 dX1_meetsPath_13 (by decide) (fun b13 => ?_) (fun b13 => ?_)
    · have b13 := (nI_ltI (a := dp) (b := 8) (by omega) (by omega)).mp b13
      refine q_iconst (v := 0) dX1_meetsPath_18 rfl ?_
      refine q_istore dX1_meetsPath_19 (by decide) rfl ?_
      change q_W _ _ _ _ _ _ _ _ _ [.ref (q), .int (nI (j)), .int (xp), .int (nI (dp)), .int (0)] [] _
      change q_W _ _ _ _ _ _ _ _ _ [.ref (q), .int (nI (j)), .int (xp), .int (nI (dp)), .int (0)] [] _
      refine l_cy_meetsPath_21 sat hj hdp b13 IM (by omega) (by omega) (by omega) 8 0 (by omega) (fun _ x1 => ?_) (fun zz x1 => ?_)
      · change q_W _ _ _ _ _ _ _ _ 64 [q_u, q_u, q_u, q_u, q_u] [] _
        refine q_iconst (v := 0) dX1_meetsPath_64 rfl ?_
        have hE : x_cy_meetsPath f j xp dp P = false := by simp only [x_cy_meetsPath, if_neg b5, if_pos b13, x1]
        rw [hE]
        exact q_ireturn dX1_meetsPath_65 rfl rfl (by omega) (by omega) ⟨rfl, rfl⟩
      · have hE : x_cy_meetsPath f j xp dp P = zz := by simp only [x_cy_meetsPath, if_neg b5, if_pos b13, x1]
        rw [hE]
        exact fun _ _ q9 => q9
    · have b13 : ¬ (dp < 8) := fun q => b13 ((nI_ltI (a := dp) (b := 8) (by omega) (by omega)).mpr q)
      refine q_iconst (v := 0) dX1_meetsPath_16 rfl ?_
      have hE : x_cy_meetsPath f j xp dp P = false := by simp only [x_cy_meetsPath, if_neg b5, if_neg b13]
      rw [hE]
      exact q_ireturn dX1_meetsPath_17 rfl rfl (by omega) (by omega) ⟨rfl, rfl⟩
  · have b5 := z_b1 b5
    refine q_iconst (v := 1) dX1_meetsPath_8 rfl ?_
    have hE : x_cy_meetsPath f j xp dp P = true := by simp only [x_cy_meetsPath, if_pos b5]
    rw [hE]
    exact q_ireturn dX1_meetsPath_9 rfl rfl (by omega) (by omega) ⟨rfl, rfl⟩
/-- whether a path is met: r steps may still follow -/
def x_mp (f : Nat → Int32) : Nat → Nat → Int32 → Bool
  | 0 => fun j xp => x_cy_meetsPath f j xp 8 fun _ _ => false
  | r + 1 => fun j xp => x_cy_meetsPath f j xp (7 - r) (x_mp f r)
theorem e_mp {q : Nat} {f : Nat → Int32} : ∀ (r dp : Nat), r + dp = 8 → ∀ {g : q_G} {h : q_H} {d : Nat} (sat : z_I8 h q f) (j : Nat) (xp : Int32) (hj : j < 8) (hd : (8 - dp) + 3 ≤ d), q_Spec g mX1_meetsPath d 0 0 [.ref q, .int (nI j), .int xp, .int (nI dp)] h (q_ret (some (.int (z_b (x_mp f r j xp)))) h) := by
  intro r
  induction r with
  | zero =>
    intro dp hr g h d sat j xp hj hd
    obtain rfl : dp = 8 := by omega
    exact e_cy_meetsPath (P := fun _ _ => false) sat j xp 8 hj (by omega) (fun z => absurd z (by omega)) hd
  | succ r ih =>
    intro dp hr g h d sat j xp hj hd
    obtain rfl : dp = 7 - r := by omega
    exact e_cy_meetsPath (P := x_mp f r) sat j xp (7 - r) hj (by omega) (fun _ => fun {g1 h1 d1} sat1 j1 xp1 hj1 hd1 => ih (7 - r + 1) (by omega) sat1 j1 xp1 hj1 (by omega)) hd
def x_cy_areFound_2 (att : Nat → Int32) : Nat → Nat → (Unit) ⊕ (Bool)
  | 0, _ => .inl ()
  | r + 1, k => (if x_mp att 8 k 0 then .inr true else x_cy_areFound_2 att r (k + 1) )
set_option maxRecDepth 100000 in
set_option maxHeartbeats 8000000 in
theorem l_cy_areFound_2 {g : q_G} {h : q_H} {d mc ms kc ks : Nat} {Q : q_O → q_H → Prop} {a : Nat} {n : Nat} {id : Nat → Int32} {wt : Nat → Int32} {ag : Nat → Int32} {tg : Nat → Int32} {att : Nat → Int32} {ni : Int32} {dy : Int32} {mn : Nat} {mv : Nat → Int32} {en : Int32} {wo : Int32} {br : Int32} (sst : z_S2 h a n id wt ag tg att ni dy mn mv en wo br)  (ho_st_n : n ≤ 8) (ho_st_mn : mn ≤ 12)  (hd : 12 ≤ d) (hkc : kc + 0 ≤ mc) (hks : ks + 0 ≤ ms) : ∀ (r k : Nat)  (hk_2 : k + r = n) (K : ∀ (_ : Unit), x_cy_areFound_2 att r k  = .inl () → q_W g mX1_areFound d mc ms Q kc ks 31 [q_u, q_u] [] h) (K2 : ∀ z, x_cy_areFound_2 att r k  = .inr z → ∀ o h1, q_ret ((some (.int (z_b z)))) h o h1 → Q o h1), q_W g mX1_areFound d mc ms Q kc ks 2 [.ref (a), .int (nI (k))] [] h := by
  intro r
  induction r with
  | zero =>
    intro k   hk_2 K K2
    have hr_st := sst.r0
    have hb_st_n := sst.bn
    have hb_st_mn := sst.bmn
    refine q_iload_n dX1_areFound_2 rfl ?_
    refine q_aload_n (by first | assumption | omega | decide) dX1_areFound_3 rfl ?_
    refine q_getf (k := 6) (v := .int (nI (n))) kC_X8 kL_X1_15 rfl (by decide) dX1_areFound_4 sst.c0 rfl ?_
    refine q_icmp_ge 31 dX1_areFound_7 (by decide) (fun b7 => ?_) (fun b7 => ?_)
    · have b7 := (nI_leI (a := n) (b := k) (by omega) (by omega)).mp b7
      refine q_forget 0 ?_
      refine q_forget 1 ?_
      change q_W _ _ _ _ _ _ _ _ _ [q_u, q_u] [] _
      exact K () (by simp only [x_cy_areFound_2])
    · have b7 : ¬ (n ≤ k) := fun q => b7 ((nI_leI (a := n) (b := k) (by omega) (by omega)).mpr q)
      exact absurd b7 (by omega)
  | succ r ih =>
    intro k   hk_2 K K2
    have hr_st := sst.r0
    have hb_st_n := sst.bn
    have hb_st_mn := sst.bmn
    refine q_iload_n dX1_areFound_2 rfl ?_
    refine q_aload_n (by first | assumption | omega | decide) dX1_areFound_3 rfl ?_
    refine q_getf (k := 6) (v := .int (nI (n))) kC_X8 kL_X1_15 rfl (by decide) dX1_areFound_4 sst.c0 rfl ?_
    refine q_icmp_ge 31 dX1_areFound_7 (by decide) (fun b7 => ?_) (fun b7 => ?_)
    · have b7 := (nI_leI (a := n) (b := k) (by omega) (by omega)).mp b7
      exact absurd b7 (by omega)
    · have b7 : ¬ (n ≤ k) := fun q => b7 ((nI_leI (a := n) (b := k) (by omega) (by omega)).mpr q)
      refine q_aload_n (by first | assumption | omega | decide) dX1_areFound_10 rfl ?_
      refine q_getf (k := 4) (v := .ref (a + 5)) kC_X8 kL_X1_19 rfl (by decide) dX1_areFound_11 sst.c0 rfl ?_
      refine q_iload_n dX1_areFound_14 rfl ?_
      refine q_iconst (v := 0) dX1_areFound_15 rfl ?_
      refine q_iconst (v := 0) dX1_areFound_16 rfl ?_
      refine q_invS (mc' := 0) (ms' := 0) (d' := d - 1) (as := [.ref (a + 5), .int (nI (k)), .int (0), .int (0)]) dX1_areFound_17 kM_X1_meetsPath kL_X1_23 kT_X1_meetsPath rfl rfl rfl (Nat.le_of_ble_eq_true rfl) (by omega) (by decide) (by omega) (by omega) (e_mp 8 0 rfl (d := d - 1) (sst.p5) k 0 (by omega) (by omega)) (q_kR ?_) q_xR
      change q_W _ _ _ _ _ _ _ _ 20 [.ref (a), .int (nI (k))] [.int (z_b (x_mp att 8 k 0))] _
      refine q_if_eq 25 dX1_areFound_20 (by decide) (fun b20 => ?_) (fun b20 => ?_)
      · have b20 := z_b0n b20
        refine q_iinc (x := nI (k)) (v := nI (k + 1)) dX1_areFound_25 rfl (nI_add _ 1) rfl ?_
        change q_W _ _ _ _ _ _ _ _ _ [.ref (a), .int (nI (k + 1))] [] _
        refine q_goto 2 dX1_areFound_28 (by decide) ?_
        change q_W _ _ _ _ _ _ _ _ _ [.ref (a), .int (nI (k + 1))] [] _
        exact ih (k + 1)  (by omega) (fun _ e9 => K () (by simp only [x_cy_areFound_2, if_neg b20]; exact e9)) (fun z9 e9 => K2 z9 (by simp only [x_cy_areFound_2, if_neg b20]; exact e9))
      · have b20 := z_b1 b20
        refine q_iconst (v := 1) dX1_areFound_23 rfl ?_
        exact q_ireturn dX1_areFound_24 rfl rfl (by omega) (by omega) (K2 true (by simp only [x_cy_areFound_2, if_pos b20]) _ _ ⟨rfl, rfl⟩)
def x_cy_areFound (n : Nat) (att : Nat → Int32) : Bool := (match x_cy_areFound_2 att n 0 with | .inl () => false | .inr zz => zz)
set_option maxRecDepth 100000 in
set_option maxHeartbeats 8000000 in
theorem e_cy_areFound {g : q_G} {h : q_H} {d : Nat} {a : Nat} {n : Nat} {id : Nat → Int32} {wt : Nat → Int32} {ag : Nat → Int32} {tg : Nat → Int32} {att : Nat → Int32} {ni : Int32} {dy : Int32} {mn : Nat} {mv : Nat → Int32} {en : Int32} {wo : Int32} {br : Int32} (sst : z_S2 h a n id wt ag tg att ni dy mn mv en wo br)     (hd : 12 ≤ d) : q_Spec g mX1_areFound d 0 0 [.ref (a)] h (q_ret ((some (.int (z_b (x_cy_areFound n att))))) h) := by
  have hr_st := sst.r0
  have hb_st_n := sst.bn
  have hb_st_mn := sst.bmn
  have ho_st_n := sst.bn
  have ho_st_mn := sst.bmn
  refine q_enter (by decide +kernel) rfl rfl (Nat.le_of_ble_eq_true rfl) (fun hz => ?_)
  change q_W _ _ _ _ _ _ _ _ _ [.ref (a), q_u] [] _
  refine q_iconst (v := 0) dX1_areFound_0 rfl ?_
  refine q_istore_n dX1_areFound_1 (by decide) rfl ?_
  change q_W _ _ _ _ _ _ _ _ _ [.ref (a), .int (0)] [] _
  change q_W _ _ _ _ _ _ _ _ _ [.ref (a), .int (0)] [] _
  refine l_cy_areFound_2 sst ho_st_n ho_st_mn (by omega) (by omega) (by omega) n 0 (by omega) (fun _ x1 => ?_) (fun zz x1 => ?_)
  · change q_W _ _ _ _ _ _ _ _ 31 [q_u, q_u] [] _
    refine q_iconst (v := 0) dX1_areFound_31 rfl ?_
    have hE : x_cy_areFound n att = false := by simp only [x_cy_areFound, x1]
    rw [hE]
    exact q_ireturn dX1_areFound_32 rfl rfl (by omega) (by omega) ⟨rfl, rfl⟩
  · have hE : x_cy_areFound n att = zz := by simp only [x_cy_areFound, x1]
    rw [hE]
    exact fun _ _ q9 => q9
