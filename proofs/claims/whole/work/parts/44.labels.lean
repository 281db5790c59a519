/-- bit j of x -/
def z_bi (x : Int32) (j : Nat) : Bool := x.toBitVec.getLsbD j
theorem z_bi_ext {x y : Int32} (h : ∀ j, j < 32 → z_bi x j = z_bi y j) : x = y := by
  apply Int32.toBitVec_inj.mp
  apply BitVec.eq_of_getLsbD_eq
  intro i hi
  exact h i hi
theorem z_bi_0 (j : Nat) : z_bi 0 j = false := by
  show (0 : BitVec 32).getLsbD j = false
  simp
theorem z_bi_or (x y : Int32) (j : Nat) : z_bi (x ||| y) j = (z_bi x j || z_bi y j) := by
  unfold z_bi
  rw [Int32.toBitVec_or, BitVec.getLsbD_or]
theorem z_bi_and (x y : Int32) (j : Nat) : z_bi (x &&& y) j = (z_bi x j && z_bi y j) := by
  unfold z_bi
  rw [Int32.toBitVec_and, BitVec.getLsbD_and]
theorem z_bi_xor (x y : Int32) (j : Nat) : z_bi (x ^^^ y) j = (z_bi x j ^^ z_bi y j) := by
  unfold z_bi
  rw [Int32.toBitVec_xor, BitVec.getLsbD_xor]
theorem z_bi_m1 {j : Nat} (hj : j < 32) : z_bi (-1) j = true := by
  have h : ∀ j, j < 32 → z_bi (-1) j = true := by decide +kernel
  exact h j hj
theorem z_bi_not (x : Int32) {j : Nat} (hj : j < 32) : z_bi (x ^^^ (-1)) j = !z_bi x j := by
  rw [z_bi_xor, z_bi_m1 hj, Bool.xor_true]
theorem z_bi_shl {k j : Nat} (hk : k < 32) (hj : j < 32) : z_bi ((1 : Int32) <<< (nI k &&& 31)) j = decide (j = k) := by
  have h : ∀ k, k < 32 → ∀ j, j < 32 → z_bi ((1 : Int32) <<< (nI k &&& 31)) j = decide (j = k) := by decide +kernel
  exact h k hk j hj
theorem z_bi_1 (x : Int32) : x &&& 1 = 0 ↔ z_bi x 0 = false := by
  constructor
  · intro h
    have q := z_bi_and x 1 0
    rw [h, z_bi_0] at q
    have e : z_bi 1 0 = true := by decide
    rw [e, Bool.and_true] at q
    exact q.symm
  · intro h
    refine z_bi_ext (fun j hj => ?_)
    rw [z_bi_and, z_bi_0]
    by_cases e : j = 0
    · subst e
      rw [h]
      rfl
    · have e1 : ∀ j, j < 32 → j ≠ 0 → z_bi 1 j = false := by decide +kernel
      rw [e1 j hj e, Bool.and_false]
theorem z_bi_shr (x : Int32) {j : Nat} (hj : j < 32) : z_bi (x >>> (nI j &&& 31)) 0 = z_bi x j := by
  unfold z_bi
  have e : ∀ j, j < 32 → ((nI j &&& 31).toBitVec.smod 32).toNat = j := by decide +kernel
  rw [Int32.toBitVec_shiftRight, BitVec.sshiftRight', e j hj, BitVec.getLsbD_sshiftRight]
  simp
  omega
theorem z_bit0 (x : Int32) {j : Nat} (hj : j < 32) : (x >>> (nI j &&& 31)) &&& 1 = 0 ↔ z_bi x j = false := by
  rw [z_bi_1, z_bi_shr x hj]
theorem z_bit1 (x : Int32) {j : Nat} (hj : j < 32) : (x >>> (nI j &&& 31)) &&& 1 = 1 ↔ z_bi x j = true := by
  constructor
  · intro h
    cases e : z_bi x j with
    | true => rfl
    | false =>
      rw [(z_bit0 x hj).mpr e] at h
      exact absurd h (by decide)
  · intro h
    refine z_bi_ext (fun i hi => ?_)
    rw [z_bi_and]
    by_cases e : i = 0
    · subst e
      rw [z_bi_shr x hj, h]
      rfl
    · have e1 : ∀ j, j < 32 → j ≠ 0 → z_bi 1 j = false := by decide +kernel
      rw [e1 i hi e, Bool.and_false]
theorem z_has_bt (x : Int32) {j : Nat} (hj : j < 32) : z_has x j = z_bi x j := by
  unfold z_has
  cases e : z_bi x j with
  | true => rw [decide_eq_false (fun q => by rw [(z_bit0 x hj).mp q] at e; cases e)]; rfl
  | false => rw [decide_eq_true ((z_bit0 x hj).mpr e)]; rfl
/-- how many of the first n bits are set -/
def z_cn (x : Int32) : Nat → Nat
  | 0 => 0
  | k + 1 => z_cn x k + if z_bi x k then 1 else 0
theorem z_cn_le (x : Int32) : ∀ n, z_cn x n ≤ n := by
  intro n
  induction n with
  | zero => exact Nat.le_refl _
  | succ n ih =>
    simp only [z_cn]
    split <;> omega
theorem z_cn_mono {x y : Int32} : ∀ n, (∀ j, j < n → z_bi x j = true → z_bi y j = true) → z_cn x n ≤ z_cn y n := by
  intro n
  induction n with
  | zero => intro _; exact Nat.le_refl _
  | succ n ih =>
    intro h
    have := ih (fun j hj => h j (by omega))
    simp only [z_cn]
    by_cases e : z_bi x n = true
    · rw [if_pos e, if_pos (h n (by omega) e)]
      omega
    · rw [if_neg e]
      split <;> omega
theorem z_cn_lt {x y : Int32} : ∀ n, (∀ j, j < n → z_bi x j = true → z_bi y j = true) → (∃ j, j < n ∧ z_bi x j = false ∧ z_bi y j = true) → z_cn x n < z_cn y n := by
  intro n
  induction n with
  | zero =>
    rintro _ ⟨j, hj, -⟩
    omega
  | succ n ih =>
    rintro h ⟨j, hj, h1, h2⟩
    simp only [z_cn]
    by_cases e : j = n
    · subst e
      have := z_cn_mono j (fun i hi => h i (by omega))
      rw [h1, h2]
      simp
      omega
    · have := ih (fun i hi => h i (by omega)) ⟨j, by omega, h1, h2⟩
      by_cases e : z_bi x n = true
      · rw [if_pos e, if_pos (h n (by omega) e)]
        omega
      · rw [if_neg e]
        split <;> omega
def x_mo_labels_7 (al : Nat → Int32) (ac : Int32) (rj : Int32) (n : Nat) : Nat → Nat → (Int32) → (Int32)
  | 0, _, c7_2 => c7_2
  | r + 1, k, c7_2 => (if (((ac ||| rj) >>> ((nI (k)) &&& 31)) &&& (1 : Int32)) = (0) then (if ((x_mo_attackers al n k) &&& (rj ^^^ (-1 : Int32))) = (0) then x_mo_labels_7 al ac rj n r (k + 1) (c7_2 ||| ((1 : Int32) <<< ((nI (k)) &&& 31))) else x_mo_labels_7 al ac rj n r (k + 1) c7_2) else x_mo_labels_7 al ac rj n r (k + 1) c7_2)
set_option maxRecDepth 100000 in
set_option maxHeartbeats 8000000 in
theorem l_mo_labels_7 {g : q_G} {h : q_H} {d mc ms kc ks : Nat} {Q : q_O → q_H → Prop} {th : Int32} {al : Nat → Int32} {cg : Nat} {sv : Bool} {rs : Int32} {ac : Int32} {rj : Int32} {ro : Nat → Int32} {ad : Nat → Int32} {bf : Nat → Int32} {ln : Nat → Int32} {lz : Nat} {ip : Nat → Int32} {ty : Nat} {he : Nat} {er : Int32} {ea : Int32} {fa : Int32} {cm : Nat → Int32} {cn : Nat} {n : Nat} {mn : Nat} {xr : Int32} (smo : z_Mo h 215 th al cg sv rs ac rj ro ad bf ln lz ip ty he er ea fa cm cn n mn) (p0 : q_same h h 215 8)  (ho_mo_cg : cg ≤ 8) (ho_mo_lz : lz ≤ 160) (ho_mo_ty : ty ≤ 60) (ho_mo_he : he ≤ 60) (ho_mo_cn : cn ≤ 61) (ho_mo_n : n ≤ 8) (ho_mo_mn : mn ≤ 12)  (hd : 4 ≤ d) (hkc : kc + 0 ≤ mc) (hks : ks + 0 ≤ ms) : ∀ (r k : Nat) (c7_2 : Int32) (hk_7 : k + r = n) (K : ∀ (r7_0 : Int32), x_mo_labels_7 al ac rj n r k c7_2 = r7_0 → q_W g mX11_labels d mc ms Q kc ks 64 [.ref (215), .int (xr), .int (r7_0), .int (0), q_u] [] h), q_W g mX11_labels d mc ms Q kc ks 7 [.ref (215), .int (xr), .int (c7_2), .int (0), .int (nI (k))] [] h := by
  intro r
  induction r with
  | zero =>
    intro k c7_2  hk_7 K
    have hb_mo_cg := smo.bcg
    have hb_mo_lz := smo.blz
    have hb_mo_ty := smo.bty
    have hb_mo_he := smo.bhe
    have hb_mo_cn := smo.bcn
    have hb_mo_n := smo.bn
    have hb_mo_mn := smo.bmn
    refine q_iload dX11_labels_7 rfl ?_
    refine q_aload_n (by first | assumption | omega | decide | (rw [q_R0e]; omega)) dX11_labels_9 rfl ?_
    refine q_getf (k := 1) (v := .ref (216)) kC_X11 kL_X11_9 rfl (by decide) dX11_labels_10 smo.c0 rfl ?_
    refine q_iconst (v := 0) dX11_labels_13 rfl ?_
    refine q_ialdN (j := 0) (f := al) dX11_labels_14 smo.c1 (by omega) (by decide) ?_
    rw [smo.en]
    change q_W _ _ _ _ _ _ _ _ _ _ [.int (nI (n)), .int (nI (k))] _
    refine q_icmp_ge 64 dX11_labels_15 (by decide) (fun b15 => ?_) (fun b15 => ?_)
    · have b15 := (nI_leI (a := n) (b := k) (by omega) (by omega)).mp b15
      refine q_forget 4 ?_
      change q_W _ _ _ _ _ _ _ _ _ [.ref (215), .int (xr), .int (c7_2), .int (0), q_u] [] _
      exact K c7_2 (by simp only [x_mo_labels_7])
    · have b15 : ¬ (n ≤ k) := fun q => b15 ((nI_leI (a := n) (b := k) (by omega) (by omega)).mpr q)
      exact absurd b15 (by omega)
  | succ r ih =>
    intro k c7_2  hk_7 K
    have hb_mo_cg := smo.bcg
    have hb_mo_lz := smo.blz
    have hb_mo_ty := smo.bty
    have hb_mo_he := smo.bhe
    have hb_mo_cn := smo.bcn
    have hb_mo_n := smo.bn
    have hb_mo_mn := smo.bmn
    refine q_iload dX11_labels_7 rfl ?_
    refine q_aload_n (by first | assumption | omega | decide | (rw [q_R0e]; omega)) dX11_labels_9 rfl ?_
    refine q_getf (k := 1) (v := .ref (216)) kC_X11 kL_X11_9 rfl (by decide) dX11_labels_10 smo.c0 rfl ?_
    refine q_iconst (v := 0) dX11_labels_13 rfl ?_
    refine q_ialdN (j := 0) (f := al) dX11_labels_14 smo.c1 (by omega) (by decide) ?_
    rw [smo.en]
    change q_W _ _ _ _ _ _ _ _ _ _ [.int (nI (n)), .int (nI (k))] _
    refine q_icmp_ge 64 dX11_labels_15 (by decide) (fun b15 => ?_) (fun b15 => ?_)
    · have b15 := (nI_leI (a := n) (b := k) (by omega) (by omega)).mp b15
      exact absurd b15 (by omega)
    · have b15 : ¬ (n ≤ k) := fun q => b15 ((nI_leI (a := n) (b := k) (by omega) (by omega)).mpr q)
      refine q_aload_n (by first | assumption | omega | decide | (rw [q_R0e]; omega)) dX11_labels_18 rfl ?_
      refine q_getf (k := 5) (v := .int (ac)) kC_X11 kL_X11_74 rfl (by decide) dX11_labels_19 smo.c0 rfl ?_
      refine q_aload_n (by first | assumption | omega | decide | (rw [q_R0e]; omega)) dX11_labels_22 rfl ?_
      refine q_getf (k := 6) (v := .int (rj)) kC_X11 kL_X11_77 rfl (by decide) dX11_labels_23 smo.c0 rfl ?_
      refine q_ior dX11_labels_26 ?_
      refine q_iload dX11_labels_27 rfl ?_
      refine q_ishr dX11_labels_29 ?_
      refine q_iconst (v := 1) dX11_labels_30 rfl ?_
      refine q_iand dX11_labels_31 ?_
      refine q_if_ne 58 dX11_labels_32 (by decide) (fun b32 => ?_) (fun b32 => ?_)
      · refine q_iinc (x := nI (k)) (v := nI (k + 1)) dX11_labels_58 rfl (nI_add _ 1) rfl ?_
        change q_W _ _ _ _ _ _ _ _ _ [.ref (215), .int (xr), .int (c7_2), .int (0), .int (nI (k + 1))] [] _
        refine q_goto 7 dX11_labels_61 (by decide) ?_
        change q_W _ _ _ _ _ _ _ _ _ [.ref (215), .int (xr), .int (c7_2), .int (0), .int (nI (k + 1))] [] _
        exact ih (k + 1) c7_2 (by omega) (fun r7_0 e9 => K r7_0 (by simp only [x_mo_labels_7, if_neg b32]; exact e9))
      · refine q_aload_n (by first | assumption | omega | decide | (rw [q_R0e]; omega)) dX11_labels_35 rfl ?_
        refine q_iload dX11_labels_36 rfl ?_
        refine q_invV (mc' := 0) (ms' := 0) (d' := d - 1) (as := [.int (nI (k))]) dX11_labels_38 kM_X11_attackers kL_X11_80 kI_X11_attackers kS_X11_attackers rfl (kC_X11.1) smo.c0 rfl rfl (Nat.le_of_ble_eq_true rfl) (by omega) (by decide) (by omega) (by omega) (e_mo_attackers (d := d - 1) smo k (by omega) (by omega)) (q_kR ?_) q_xR
        change q_W _ _ _ _ _ _ _ _ 41 [.ref (215), .int (xr), .int (c7_2), .int (0), .int (nI (k))] [.int (x_mo_attackers al n k)] _
        refine q_aload_n (by first | assumption | omega | decide | (rw [q_R0e]; omega)) dX11_labels_41 rfl ?_
        refine q_getf (k := 6) (v := .int (rj)) kC_X11 kL_X11_77 rfl (by decide) dX11_labels_42 smo.c0 rfl ?_
        refine q_iconst (v := -1) dX11_labels_45 rfl ?_
        refine q_ixor dX11_labels_46 ?_
        refine q_iand dX11_labels_47 ?_
        refine q_if_ne 58 dX11_labels_48 (by decide) (fun b48 => ?_) (fun b48 => ?_)
        · refine q_iinc (x := nI (k)) (v := nI (k + 1)) dX11_labels_58 rfl (nI_add _ 1) rfl ?_
          change q_W _ _ _ _ _ _ _ _ _ [.ref (215), .int (xr), .int (c7_2), .int (0), .int (nI (k + 1))] [] _
          refine q_goto 7 dX11_labels_61 (by decide) ?_
          change q_W _ _ _ _ _ _ _ _ _ [.ref (215), .int (xr), .int (c7_2), .int (0), .int (nI (k + 1))] [] _
          exact ih (k + 1) c7_2 (by omega) (fun r7_0 e9 => K r7_0 (by simp only [x_mo_labels_7, if_pos b32, if_neg b48]; exact e9))
        · refine q_iload_n dX11_labels_51 rfl ?_
          refine q_iconst (v := 1) dX11_labels_52 rfl ?_
          refine q_iload dX11_labels_53 rfl ?_
          refine q_ishl dX11_labels_55 ?_
          refine q_ior dX11_labels_56 ?_
          refine q_istore_n dX11_labels_57 (by decide) rfl ?_
          change q_W _ _ _ _ _ _ _ _ _ [.ref (215), .int (xr), .int (c7_2 ||| ((1 : Int32) <<< ((nI (k)) &&& 31))), .int (0), .int (nI (k))] [] _
          refine q_iinc (x := nI (k)) (v := nI (k + 1)) dX11_labels_58 rfl (nI_add _ 1) rfl ?_
          change q_W _ _ _ _ _ _ _ _ _ [.ref (215), .int (xr), .int (c7_2 ||| ((1 : Int32) <<< ((nI (k)) &&& 31))), .int (0), .int (nI (k + 1))] [] _
          refine q_goto 7 dX11_labels_61 (by decide) ?_
          change q_W _ _ _ _ _ _ _ _ _ [.ref (215), .int (xr), .int (c7_2 ||| ((1 : Int32) <<< ((nI (k)) &&& 31))), .int (0), .int (nI (k + 1))] [] _
          exact ih (k + 1) (c7_2 ||| ((1 : Int32) <<< ((nI (k)) &&& 31))) (by omega) (fun r7_0 e9 => K r7_0 (by simp only [x_mo_labels_7, if_pos b32, if_pos b48]; exact e9))
def x_mo_labels_77 (al : Nat → Int32) (ac : Int32) (rj : Int32) (n : Nat) (a1_0 : Int32) : Nat → Nat → (Int32) → (Int32)
  | 0, _, c77_3 => c77_3
  | r + 1, kk, c77_3 => (if ((((ac ||| a1_0) ||| rj) >>> ((nI (kk)) &&& 31)) &&& (1 : Int32)) = (0) then (if ((x_mo_attackers al n kk) &&& (ac ||| a1_0)) = (0) then x_mo_labels_77 al ac rj n a1_0 r (kk + 1) c77_3 else x_mo_labels_77 al ac rj n a1_0 r (kk + 1) (c77_3 ||| ((1 : Int32) <<< ((nI (kk)) &&& 31)))) else x_mo_labels_77 al ac rj n a1_0 r (kk + 1) c77_3)
set_option maxRecDepth 100000 in
set_option maxHeartbeats 8000000 in
theorem l_mo_labels_77 {g : q_G} {h h3 : q_H} {d mc ms kc ks : Nat} {Q : q_O → q_H → Prop} {th : Int32} {al : Nat → Int32} {cg : Nat} {sv : Bool} {rs : Int32} {ac : Int32} {rj : Int32} {ro : Nat → Int32} {ad : Nat → Int32} {bf : Nat → Int32} {ln : Nat → Int32} {lz : Nat} {ip : Nat → Int32} {ty : Nat} {he : Nat} {er : Int32} {ea : Int32} {fa : Int32} {cm : Nat → Int32} {cn : Nat} {n : Nat} {mn : Nat} {xr : Int32} {a1_0 : Int32} (smo3 : z_Mo h3 215 th al cg sv rs (ac ||| a1_0) rj ro ad bf ln lz ip ty he er ea fa cm cn n mn) (p3 : q_same h h3 215 8)  (ho_mo_cg : cg ≤ 8) (ho_mo_lz : lz ≤ 160) (ho_mo_ty : ty ≤ 60) (ho_mo_he : he ≤ 60) (ho_mo_cn : cn ≤ 61) (ho_mo_n : n ≤ 8) (ho_mo_mn : mn ≤ 12)  (hd : 4 ≤ d) (hkc : kc + 0 ≤ mc) (hks : ks + 0 ≤ ms) : ∀ (r kk : Nat) (c77_3 : Int32) (hk_77 : kk + r = n) (K : ∀ (r77_0 : Int32), x_mo_labels_77 al ac rj n a1_0 r kk c77_3 = r77_0 → q_W g mX11_labels d mc ms Q kc ks 132 [.ref (215), .int (xr), .int (a1_0), .int (r77_0), q_u] [] h3), q_W g mX11_labels d mc ms Q kc ks 77 [.ref (215), .int (xr), .int (a1_0), .int (c77_3), .int (nI (kk))] [] h3 := by
  intro r
  induction r with
  | zero =>
    intro kk c77_3  hk_77 K
    have hb_mo_cg := smo3.bcg
    have hb_mo_lz := smo3.blz
    have hb_mo_ty := smo3.bty
    have hb_mo_he := smo3.bhe
    have hb_mo_cn := smo3.bcn
    have hb_mo_n := smo3.bn
    have hb_mo_mn := smo3.bmn
    refine q_iload dX11_labels_77 rfl ?_
    refine q_aload_n (by first | assumption | omega | decide | (rw [q_R0e]; omega)) dX11_labels_79 rfl ?_
    refine q_getf (k := 1) (v := .ref (216)) kC_X11 kL_X11_9 rfl (by decide) dX11_labels_80 smo3.c0 rfl ?_
    refine q_iconst (v := 0) dX11_labels_83 rfl ?_
    refine q_ialdN (j := 0) (f := al) dX11_labels_84 smo3.c1 (by omega) (by decide) ?_
    rw [smo3.en]
    change q_W _ _ _ _ _ _ _ _ _ _ [.int (nI (n)), .int (nI (kk))] _
    refine q_icmp_ge 132 dX11_labels_85 (by decide) (fun b85 => ?_) (fun b85 => ?_)
    · have b85 := (nI_leI (a := n) (b := kk) (by omega) (by omega)).mp b85
      refine q_forget 4 ?_
      change q_W _ _ _ _ _ _ _ _ _ [.ref (215), .int (xr), .int (a1_0), .int (c77_3), q_u] [] _
      exact K c77_3 (by simp only [x_mo_labels_77])
    · have b85 : ¬ (n ≤ kk) := fun q => b85 ((nI_leI (a := n) (b := kk) (by omega) (by omega)).mpr q)
      exact absurd b85 (by omega)
  | succ r ih =>
    intro kk c77_3  hk_77 K
    have hb_mo_cg := smo3.bcg
    have hb_mo_lz := smo3.blz
    have hb_mo_ty := smo3.bty
    have hb_mo_he := smo3.bhe
    have hb_mo_cn := smo3.bcn
    have hb_mo_n := smo3.bn
    have hb_mo_mn := smo3.bmn
    refine q_iload dX11_labels_77 rfl ?_
    refine q_aload_n (by first | assumption | omega | decide | (rw [q_R0e]; omega)) dX11_labels_79 rfl ?_
    refine q_getf (k := 1) (v := .ref (216)) kC_X11 kL_X11_9 rfl (by decide) dX11_labels_80 smo3.c0 rfl ?_
    refine q_iconst (v := 0) dX11_labels_83 rfl ?_
    refine q_ialdN (j := 0) (f := al) dX11_labels_84 smo3.c1 (by omega) (by decide) ?_
    rw [smo3.en]
    change q_W _ _ _ _ _ _ _ _ _ _ [.int (nI (n)), .int (nI (kk))] _
    refine q_icmp_ge 132 dX11_labels_85 (by decide) (fun b85 => ?_) (fun b85 => ?_)
    · have b85 := (nI_leI (a := n) (b := kk) (by omega) (by omega)).mp b85
      exact absurd b85 (by omega)
    · have b85 : ¬ (n ≤ kk) := fun q => b85 ((nI_leI (a := n) (b := kk) (by omega) (by omega)).mpr q)
      refine q_aload_n (by first | assumption | omega | decide | (rw [q_R0e]; omega)) dX11_labels_88 rfl ?_
      refine q_getf (k := 5) (v := .int (ac ||| a1_0)) kC_X11 kL_X11_74 rfl (by decide) dX11_labels_89 smo3.c0 rfl ?_
      refine q_aload_n (by first | assumption | omega | decide | (rw [q_R0e]; omega)) dX11_labels_92 rfl ?_
      refine q_getf (k := 6) (v := .int (rj)) kC_X11 kL_X11_77 rfl (by decide) dX11_labels_93 smo3.c0 rfl ?_
      refine q_ior dX11_labels_96 ?_
      refine q_iload dX11_labels_97 rfl ?_
      refine q_ishr dX11_labels_99 ?_
      refine q_iconst (v := 1) dX11_labels_100 rfl ?_
      refine q_iand dX11_labels_101 ?_
      refine q_if_ne 126 dX11_labels_102 (by decide) (fun b102 => ?_) (fun b102 => ?_)
      · refine q_iinc (x := nI (kk)) (v := nI (kk + 1)) dX11_labels_126 rfl (nI_add _ 1) rfl ?_
        change q_W _ _ _ _ _ _ _ _ _ [.ref (215), .int (xr), .int (a1_0), .int (c77_3), .int (nI (kk + 1))] [] _
        refine q_goto 77 dX11_labels_129 (by decide) ?_
        change q_W _ _ _ _ _ _ _ _ _ [.ref (215), .int (xr), .int (a1_0), .int (c77_3), .int (nI (kk + 1))] [] _
        exact ih (kk + 1) c77_3 (by omega) (fun r77_0 e9 => K r77_0 (by simp only [x_mo_labels_77, if_neg b102]; exact e9))
      · refine q_aload_n (by first | assumption | omega | decide | (rw [q_R0e]; omega)) dX11_labels_105 rfl ?_
        refine q_iload dX11_labels_106 rfl ?_
        refine q_invV (mc' := 0) (ms' := 0) (d' := d - 1) (as := [.int (nI (kk))]) dX11_labels_108 kM_X11_attackers kL_X11_80 kI_X11_attackers kS_X11_attackers rfl (kC_X11.1) smo3.c0 rfl rfl (Nat.le_of_ble_eq_true rfl) (by omega) (by decide) (by omega) (by omega) (e_mo_attackers (d := d - 1) smo3 kk (by omega) (by omega)) (q_kR ?_) q_xR
        change q_W _ _ _ _ _ _ _ _ 111 [.ref (215), .int (xr), .int (a1_0), .int (c77_3), .int (nI (kk))] [.int (x_mo_attackers al n kk)] _
        refine q_aload_n (by first | assumption | omega | decide | (rw [q_R0e]; omega)) dX11_labels_111 rfl ?_
        refine q_getf (k := 5) (v := .int (ac ||| a1_0)) kC_X11 kL_X11_74 rfl (by decide) dX11_labels_112 smo3.c0 rfl ?_
        refine q_iand dX11_labels_115 ?_
        refine q_if_eq 126 dX11_labels_116 (by decide) (fun b116 => ?_) (fun b116 => ?_)
        · refine q_iinc (x := nI (kk)) (v := nI (kk + 1)) dX11_labels_126 rfl (nI_add _ 1) rfl ?_
          change q_W _ _ _ _ _ _ _ _ _ [.ref (215), .int (xr), .int (a1_0), .int (c77_3), .int (nI (kk + 1))] [] _
          refine q_goto 77 dX11_labels_129 (by decide) ?_
          change q_W _ _ _ _ _ _ _ _ _ [.ref (215), .int (xr), .int (a1_0), .int (c77_3), .int (nI (kk + 1))] [] _
          exact ih (kk + 1) c77_3 (by omega) (fun r77_0 e9 => K r77_0 (by simp only [x_mo_labels_77, if_pos b102, if_pos b116]; exact e9))
        · refine q_iload_n dX11_labels_119 rfl ?_
          refine q_iconst (v := 1) dX11_labels_120 rfl ?_
          refine q_iload dX11_labels_121 rfl ?_
          refine q_ishl dX11_labels_123 ?_
          refine q_ior dX11_labels_124 ?_
          refine q_istore_n dX11_labels_125 (by decide) rfl ?_
          change q_W _ _ _ _ _ _ _ _ _ [.ref (215), .int (xr), .int (a1_0), .int (c77_3 ||| ((1 : Int32) <<< ((nI (kk)) &&& 31))), .int (nI (kk))] [] _
          refine q_iinc (x := nI (kk)) (v := nI (kk + 1)) dX11_labels_126 rfl (nI_add _ 1) rfl ?_
          change q_W _ _ _ _ _ _ _ _ _ [.ref (215), .int (xr), .int (a1_0), .int (c77_3 ||| ((1 : Int32) <<< ((nI (kk)) &&& 31))), .int (nI (kk + 1))] [] _
          refine q_goto 77 dX11_labels_129 (by decide) ?_
          change q_W _ _ _ _ _ _ _ _ _ [.ref (215), .int (xr), .int (a1_0), .int (c77_3 ||| ((1 : Int32) <<< ((nI (kk)) &&& 31))), .int (nI (kk + 1))] [] _
          exact ih (kk + 1) (c77_3 ||| ((1 : Int32) <<< ((nI (kk)) &&& 31))) (by omega) (fun r77_0 e9 => K r77_0 (by simp only [x_mo_labels_77, if_pos b102, if_neg b116]; exact e9))
def x_mo_labels_145 (xr : Int32) (a1_0 : Int32) (a4_0 : Int32) : Nat → Nat → (Nat → Int32) → (Nat → Int32)
  | 0, _, ro_145 => ro_145
  | r + 1, kkk, ro_145 => (if (((a1_0 ||| a4_0) >>> ((nI (kkk)) &&& 31)) &&& (1 : Int32)) = (1) then x_mo_labels_145 xr a1_0 a4_0 r (kkk + 1) (upd ro_145 kkk (xr)) else x_mo_labels_145 xr a1_0 a4_0 r (kkk + 1) (upd ro_145 kkk (ro_145 kkk)))
set_option maxRecDepth 100000 in
set_option maxHeartbeats 8000000 in
theorem l_mo_labels_145 {g : q_G} {h : q_H} {d mc ms kc ks : Nat} {Q : q_O → q_H → Prop} {th : Int32} {al : Nat → Int32} {cg : Nat} {sv : Bool} {rs : Int32} {ac : Int32} {rj : Int32} {ad : Nat → Int32} {bf : Nat → Int32} {ln : Nat → Int32} {lz : Nat} {ip : Nat → Int32} {ty : Nat} {he : Nat} {er : Int32} {ea : Int32} {fa : Int32} {cm : Nat → Int32} {cn : Nat} {n : Nat} {mn : Nat} {xr : Int32} {a1_0 : Int32} {a4_0 : Int32}   (ho_mo_cg : cg ≤ 8) (ho_mo_lz : lz ≤ 160) (ho_mo_ty : ty ≤ 60) (ho_mo_he : he ≤ 60) (ho_mo_cn : cn ≤ 61) (ho_mo_n : n ≤ 8) (ho_mo_mn : mn ≤ 12)  (hd : 0 ≤ d) (hkc : kc + 0 ≤ mc) (hks : ks + 0 ≤ ms) : ∀ (r kkk : Nat) (ro_145 : Nat → Int32) (hh : q_H) (smo_145 : z_Mo hh 215 th al cg sv rs (ac ||| a1_0) (rj ||| a4_0) ro_145 ad bf ln lz ip ty he er ea fa cm cn n mn) (pH : q_same h hh 215 8) (hk_145 : kkk + r = n) (K : ∀ (r145_0 : Nat → Int32), x_mo_labels_145 xr a1_0 a4_0 r kkk ro_145 = r145_0 → ∀ h2, z_Mo h2 215 th al cg sv rs (ac ||| a1_0) (rj ||| a4_0) r145_0 ad bf ln lz ip ty he er ea fa cm cn n mn → q_same h h2 215 8 → q_W g mX11_labels d mc ms Q kc ks 192 [q_u, q_u, .int (a1_0), .int (a4_0), q_u] [] h2), q_W g mX11_labels d mc ms Q kc ks 145 [.ref (215), .int (xr), .int (a1_0), .int (a4_0), .int (nI (kkk))] [] hh := by
  intro r
  induction r with
  | zero =>
    intro kkk ro_145 hh smo_145 pH hk_145 K
    have hb_mo_cg := smo_145.bcg
    have hb_mo_lz := smo_145.blz
    have hb_mo_ty := smo_145.bty
    have hb_mo_he := smo_145.bhe
    have hb_mo_cn := smo_145.bcn
    have hb_mo_n := smo_145.bn
    have hb_mo_mn := smo_145.bmn
    refine q_iload dX11_labels_145 rfl ?_
    refine q_aload_n (by first | assumption | omega | decide | (rw [q_R0e]; omega)) dX11_labels_147 rfl ?_
    refine q_getf (k := 1) (v := .ref (216)) kC_X11 kL_X11_9 rfl (by decide) dX11_labels_148 smo_145.c0 rfl ?_
    refine q_iconst (v := 0) dX11_labels_151 rfl ?_
    refine q_ialdN (j := 0) (f := al) dX11_labels_152 smo_145.c1 (by omega) (by decide) ?_
    rw [smo_145.en]
    change q_W _ _ _ _ _ _ _ _ _ _ [.int (nI (n)), .int (nI (kkk))] _
    refine q_icmp_ge 192 dX11_labels_153 (by decide) (fun b153 => ?_) (fun b153 => ?_)
    · have b153 := (nI_leI (a := n) (b := kkk) (by omega) (by omega)).mp b153
      refine q_forget 0 ?_
      refine q_forget 1 ?_
      refine q_forget 4 ?_
      change q_W _ _ _ _ _ _ _ _ _ [q_u, q_u, .int (a1_0), .int (a4_0), q_u] [] _
      exact K ro_145 (by simp only [x_mo_labels_145]) hh smo_145 pH
    · have b153 : ¬ (n ≤ kkk) := fun q => b153 ((nI_leI (a := n) (b := kkk) (by omega) (by omega)).mpr q)
      exact absurd b153 (by omega)
  | succ r ih =>
    intro kkk ro_145 hh smo_145 pH hk_145 K
    have hb_mo_cg := smo_145.bcg
    have hb_mo_lz := smo_145.blz
    have hb_mo_ty := smo_145.bty
    have hb_mo_he := smo_145.bhe
    have hb_mo_cn := smo_145.bcn
    have hb_mo_n := smo_145.bn
    have hb_mo_mn := smo_145.bmn
    refine q_iload dX11_labels_145 rfl ?_
    refine q_aload_n (by first | assumption | omega | decide | (rw [q_R0e]; omega)) dX11_labels_147 rfl ?_
    refine q_getf (k := 1) (v := .ref (216)) kC_X11 kL_X11_9 rfl (by decide) dX11_labels_148 smo_145.c0 rfl ?_
    refine q_iconst (v := 0) dX11_labels_151 rfl ?_
    refine q_ialdN (j := 0) (f := al) dX11_labels_152 smo_145.c1 (by omega) (by decide) ?_
    rw [smo_145.en]
    change q_W _ _ _ _ _ _ _ _ _ _ [.int (nI (n)), .int (nI (kkk))] _
    refine q_icmp_ge 192 dX11_labels_153 (by decide) (fun b153 => ?_) (fun b153 => ?_)
    · have b153 := (nI_leI (a := n) (b := kkk) (by omega) (by omega)).mp b153
      exact absurd b153 (by omega)
    · have b153 : ¬ (n ≤ kkk) := fun q => b153 ((nI_leI (a := n) (b := kkk) (by omega) (by omega)).mpr q)
      refine q_aload_n (by first | assumption | omega | decide | (rw [q_R0e]; omega)) dX11_labels_156 rfl ?_
      refine q_getf (k := 7) (v := .ref (217)) kC_X11 kL_X11_13 rfl (by decide) dX11_labels_157 smo_145.c0 rfl ?_
      refine q_iload dX11_labels_160 rfl ?_
      refine q_iload_n dX11_labels_162 rfl ?_
      refine q_iload_n dX11_labels_163 rfl ?_
      refine q_ior dX11_labels_164 ?_
      refine q_iload dX11_labels_165 rfl ?_
      refine q_ishr dX11_labels_167 ?_
      refine q_iconst (v := 1) dX11_labels_168 rfl ?_
      refine q_iand dX11_labels_169 ?_
      refine q_iconst (v := 1) dX11_labels_170 rfl ?_
      refine q_icmp_ne 178 dX11_labels_171 (by decide) (fun b171 => ?_) (fun b171 => ?_)
      · refine q_aload_n (by first | assumption | omega | decide | (rw [q_R0e]; omega)) dX11_labels_178 rfl ?_
        refine q_getf (k := 7) (v := .ref (217)) kC_X11 kL_X11_13 rfl (by decide) dX11_labels_179 smo_145.c0 rfl ?_
        refine q_iload dX11_labels_182 rfl ?_
        refine q_ialdN (j := kkk) (f := ro_145) dX11_labels_184 smo_145.c2 (by omega) (by decide) ?_
        change q_W _ _ _ _ _ _ _ _ _ _ [.int (ro_145 kkk), .int (nI (kkk)), .ref (217)] _
        refine q_iastN (j := kkk) dX11_labels_185 smo_145.c2 (by omega) (by decide) ?_
        refine z_genW (B := fun H => z_Mo H 215 th al cg sv rs (ac ||| a1_0) (rj ||| a4_0) (upd ro_145 kkk (ro_145 kkk)) ad bf ln lz ip ty he er ea fa cm cn n mn ∧ q_same h H 215 8) ⟨z_Mo.put2 smo_145, pH.trans (q_same.set (by omega) (by omega))⟩ (fun h7 hB => ?_)
        obtain ⟨smo7, p7⟩ := hB
        have hb_mo_cg := smo7.bcg
        have hb_mo_lz := smo7.blz
        have hb_mo_ty := smo7.bty
        have hb_mo_he := smo7.bhe
        have hb_mo_cn := smo7.bcn
        have hb_mo_n := smo7.bn
        have hb_mo_mn := smo7.bmn
        refine q_iinc (x := nI (kkk)) (v := nI (kkk + 1)) dX11_labels_186 rfl (nI_add _ 1) rfl ?_
        change q_W _ _ _ _ _ _ _ _ _ [.ref (215), .int (xr), .int (a1_0), .int (a4_0), .int (nI (kkk + 1))] [] _
        refine q_goto 145 dX11_labels_189 (by decide) ?_
        change q_W _ _ _ _ _ _ _ _ _ [.ref (215), .int (xr), .int (a1_0), .int (a4_0), .int (nI (kkk + 1))] [] _
        exact ih (kkk + 1) (upd ro_145 kkk (ro_145 kkk)) h7 smo7 p7 (by omega) (fun r145_0 e9 => K r145_0 (by simp only [x_mo_labels_145, if_neg b171]; exact e9))
      · refine q_iload_n dX11_labels_174 rfl ?_
        refine q_goto 185 dX11_labels_175 (by decide) ?_
        refine q_iastN (j := kkk) dX11_labels_185 smo_145.c2 (by omega) (by decide) ?_
        refine z_genW (B := fun H => z_Mo H 215 th al cg sv rs (ac ||| a1_0) (rj ||| a4_0) (upd ro_145 kkk (xr)) ad bf ln lz ip ty he er ea fa cm cn n mn ∧ q_same h H 215 8) ⟨z_Mo.put2 smo_145, pH.trans (q_same.set (by omega) (by omega))⟩ (fun h8 hB => ?_)
        obtain ⟨smo8, p8⟩ := hB
        have hb_mo_cg := smo8.bcg
        have hb_mo_lz := smo8.blz
        have hb_mo_ty := smo8.bty
        have hb_mo_he := smo8.bhe
        have hb_mo_cn := smo8.bcn
        have hb_mo_n := smo8.bn
        have hb_mo_mn := smo8.bmn
        refine q_iinc (x := nI (kkk)) (v := nI (kkk + 1)) dX11_labels_186 rfl (nI_add _ 1) rfl ?_
        change q_W _ _ _ _ _ _ _ _ _ [.ref (215), .int (xr), .int (a1_0), .int (a4_0), .int (nI (kkk + 1))] [] _
        refine q_goto 145 dX11_labels_189 (by decide) ?_
        change q_W _ _ _ _ _ _ _ _ _ [.ref (215), .int (xr), .int (a1_0), .int (a4_0), .int (nI (kkk + 1))] [] _
        exact ih (kkk + 1) (upd ro_145 kkk (xr)) h8 smo8 p8 (by omega) (fun r145_0 e9 => K r145_0 (by simp only [x_mo_labels_145, if_pos b171]; exact e9))
def x_mo_labels (al : Nat → Int32) (ac : Int32) (rj : Int32) (ro : Nat → Int32) (n : Nat) (xr : Int32) : (Bool) × (Int32) × (Int32) × (Nat → Int32) := (let a1_0 := x_mo_labels_7 al ac rj n n 0 0; (let a4_0 := x_mo_labels_77 al ac rj n a1_0 n 0 0; (let a9_0 := x_mo_labels_145 xr a1_0 a4_0 n 0 ro; (if (a1_0 ||| a4_0) = (0) then (false, ac ||| a1_0, rj ||| a4_0, a9_0) else (true, ac ||| a1_0, rj ||| a4_0, a9_0)))))
set_option maxRecDepth 100000 in
set_option maxHeartbeats 8000000 in
theorem e_mo_labels {g : q_G} {h : q_H} {d : Nat} {th : Int32} {al : Nat → Int32} {cg : Nat} {sv : Bool} {rs : Int32} {ac : Int32} {rj : Int32} {ro : Nat → Int32} {ad : Nat → Int32} {bf : Nat → Int32} {ln : Nat → Int32} {lz : Nat} {ip : Nat → Int32} {ty : Nat} {he : Nat} {er : Int32} {ea : Int32} {fa : Int32} {cm : Nat → Int32} {cn : Nat} {n : Nat} {mn : Nat} (smo : z_Mo h 215 th al cg sv rs ac rj ro ad bf ln lz ip ty he er ea fa cm cn n mn)  (xr : Int32)   (hd : 4 ≤ d) : q_Spec g mX11_labels d 0 0 [.ref (215), .int (xr)] h (q_chg (.inl (some (.int (z_b (x_mo_labels al ac rj ro n xr).1)))) (fun h1 => z_Mo h1 215 th al cg sv rs ((x_mo_labels al ac rj ro n xr).2.1) ((x_mo_labels al ac rj ro n xr).2.2.1) ((x_mo_labels al ac rj ro n xr).2.2.2) ad bf ln lz ip ty he er ea fa cm cn n mn ∧ q_same h h1 215 8)) := by
  have hb_mo_cg := smo.bcg
  have hb_mo_lz := smo.blz
  have hb_mo_ty := smo.bty
  have hb_mo_he := smo.bhe
  have hb_mo_cn := smo.bcn
  have hb_mo_n := smo.bn
  have hb_mo_mn := smo.bmn
  have ho_mo_cg := smo.bcg
  have ho_mo_lz := smo.blz
  have ho_mo_ty := smo.bty
  have ho_mo_he := smo.bhe
  have ho_mo_cn := smo.bcn
  have ho_mo_n := smo.bn
  have ho_mo_mn := smo.bmn
  have p0 : q_same h h 215 8 := q_same.rfl'
  refine q_enter (by decide +kernel) rfl rfl (Nat.le_of_ble_eq_true rfl) (fun hz => ?_)
  change q_W _ _ _ _ _ _ _ _ _ [.ref (215), .int (xr), q_u, q_u, q_u] [] _
  refine q_iconst (v := 0) dX11_labels_0 rfl ?_
  refine q_istore_n dX11_labels_1 (by decide) rfl ?_
  change q_W _ _ _ _ _ _ _ _ _ [.ref (215), .int (xr), .int (0), q_u, q_u] [] _
  refine q_iconst (v := 0) dX11_labels_2 rfl ?_
  refine q_istore_n dX11_labels_3 (by decide) rfl ?_
  change q_W _ _ _ _ _ _ _ _ _ [.ref (215), .int (xr), .int (0), .int (0), q_u] [] _
  refine q_iconst (v := 0) dX11_labels_4 rfl ?_
  refine q_istore dX11_labels_5 (by decide) rfl ?_
  change q_W _ _ _ _ _ _ _ _ _ [.ref (215), .int (xr), .int (0), .int (0), .int (0)] [] _
  change q_W _ _ _ _ _ _ _ _ _ [.ref (215), .int (xr), .int (0), .int (0), .int (0)] [] _
  refine l_mo_labels_7 smo p0 ho_mo_cg ho_mo_lz ho_mo_ty ho_mo_he ho_mo_cn ho_mo_n ho_mo_mn (by omega) (by omega) (by omega) n 0 0 (by omega) (fun a1_0 x1 => ?_)
  change q_W _ _ _ _ _ _ _ _ 64 [.ref (215), .int (xr), .int (a1_0), .int (0), q_u] [] _
  refine q_aload_n (by first | assumption | omega | decide | (rw [q_R0e]; omega)) dX11_labels_64 rfl ?_
  refine q_dup dX11_labels_65 rfl ?_
  refine q_getf (k := 5) (v := .int (ac)) kC_X11 kL_X11_74 rfl (by decide) dX11_labels_66 smo.c0 rfl ?_
  refine q_iload_n dX11_labels_69 rfl ?_
  refine q_ior dX11_labels_70 ?_
  refine q_putf (k := 5) kC_X11 kL_X11_74 rfl (by decide) rfl dX11_labels_71 smo.c0 (Nat.le_of_ble_eq_true rfl) ⟨rfl, rfl⟩ rfl ?_
  refine z_genW (B := fun H => z_Mo H 215 th al cg sv rs (ac ||| a1_0) rj ro ad bf ln lz ip ty he er ea fa cm cn n mn ∧ q_same h H 215 8) ⟨z_Mo.put0 smo (cg' := cg) (sv' := sv) (lz' := lz) (ty' := ty) (he' := he) (cn' := cn) (hbcg := by first | omega | (split <;> omega)) (hblz := by first | omega | (split <;> omega)) (hbty := by first | omega | (split <;> omega)) (hbhe := by first | omega | (split <;> omega)) (hbcn := by first | omega | (split <;> omega)), p0.trans (q_same.set (by omega) (by omega))⟩ (fun h3 hB => ?_)
  obtain ⟨smo3, p3⟩ := hB
  have hb_mo_cg := smo3.bcg
  have hb_mo_lz := smo3.blz
  have hb_mo_ty := smo3.bty
  have hb_mo_he := smo3.bhe
  have hb_mo_cn := smo3.bcn
  have hb_mo_n := smo3.bn
  have hb_mo_mn := smo3.bmn
  refine q_iconst (v := 0) dX11_labels_74 rfl ?_
  refine q_istore dX11_labels_75 (by decide) rfl ?_
  change q_W _ _ _ _ _ _ _ _ _ [.ref (215), .int (xr), .int (a1_0), .int (0), .int (0)] [] _
  change q_W _ _ _ _ _ _ _ _ _ [.ref (215), .int (xr), .int (a1_0), .int (0), .int (0)] [] _
  refine l_mo_labels_77 smo3 p3 ho_mo_cg ho_mo_lz ho_mo_ty ho_mo_he ho_mo_cn ho_mo_n ho_mo_mn (by omega) (by omega) (by omega) n 0 0 (by omega) (fun a4_0 x4 => ?_)
  change q_W _ _ _ _ _ _ _ _ 132 [.ref (215), .int (xr), .int (a1_0), .int (a4_0), q_u] [] _
  refine q_aload_n (by first | assumption | omega | decide | (rw [q_R0e]; omega)) dX11_labels_132 rfl ?_
  refine q_dup dX11_labels_133 rfl ?_
  refine q_getf (k := 6) (v := .int (rj)) kC_X11 kL_X11_77 rfl (by decide) dX11_labels_134 smo3.c0 rfl ?_
  refine q_iload_n dX11_labels_137 rfl ?_
  refine q_ior dX11_labels_138 ?_
  refine q_putf (k := 6) kC_X11 kL_X11_77 rfl (by decide) rfl dX11_labels_139 smo3.c0 (Nat.le_of_ble_eq_true rfl) ⟨rfl, rfl⟩ rfl ?_
  refine z_genW (B := fun H => z_Mo H 215 th al cg sv rs (ac ||| a1_0) (rj ||| a4_0) ro ad bf ln lz ip ty he er ea fa cm cn n mn ∧ q_same h H 215 8) ⟨z_Mo.put0 smo3 (cg' := cg) (sv' := sv) (lz' := lz) (ty' := ty) (he' := he) (cn' := cn) (hbcg := by first | omega | (split <;> omega)) (hblz := by first | omega | (split <;> omega)) (hbty := by first | omega | (split <;> omega)) (hbhe := by first | omega | (split <;> omega)) (hbcn := by first | omega | (split <;> omega)), p3.trans (q_same.set (by omega) (by omega))⟩ (fun h6 hB => ?_)
  obtain ⟨smo6, p6⟩ := hB
  have hb_mo_cg := smo6.bcg
  have hb_mo_lz := smo6.blz
  have hb_mo_ty := smo6.bty
  have hb_mo_he := smo6.bhe
  have hb_mo_cn := smo6.bcn
  have hb_mo_n := smo6.bn
  have hb_mo_mn := smo6.bmn
  refine q_iconst (v := 0) dX11_labels_142 rfl ?_
  refine q_istore dX11_labels_143 (by decide) rfl ?_
  change q_W _ _ _ _ _ _ _ _ _ [.ref (215), .int (xr), .int (a1_0), .int (a4_0), .int (0)] [] _
  change q_W _ _ _ _ _ _ _ _ _ [.ref (215), .int (xr), .int (a1_0), .int (a4_0), .int (0)] [] _
  refine l_mo_labels_145 ho_mo_cg ho_mo_lz ho_mo_ty ho_mo_he ho_mo_cn ho_mo_n ho_mo_mn (by omega) (by omega) (by omega) n 0 ro h6 smo6 p6 (by omega) (fun a9_0 x9 h10 smo10 p10 => ?_)
  have hb_mo_cg := smo10.bcg
  have hb_mo_lz := smo10.blz
  have hb_mo_ty := smo10.bty
  have hb_mo_he := smo10.bhe
  have hb_mo_cn := smo10.bcn
  have hb_mo_n := smo10.bn
  have hb_mo_mn := smo10.bmn
  change q_W _ _ _ _ _ _ _ _ 192 [q_u, q_u, .int (a1_0), .int (a4_0), q_u] [] _
  refine q_iload_n dX11_labels_192 rfl ?_
  refine q_iload_n dX11_labels_193 rfl ?_
  refine q_ior dX11_labels_194 ?_
  refine q_if_eq 202 dX11_labels_195 (by decide) (fun b195 => ?_) (fun b195 => ?_)
  · refine q_iconst (v := 0) dX11_labels_202 rfl ?_
    have hE : x_mo_labels al ac rj ro n xr = (false, ac ||| a1_0, rj ||| a4_0, a9_0) := by simp only [x_mo_labels, x1, x4, x9, if_pos b195]
    rw [hE]
    exact q_ireturn dX11_labels_203 rfl rfl (by omega) (by omega) ⟨rfl, smo10, p10⟩
  · refine q_iconst (v := 1) dX11_labels_198 rfl ?_
    refine q_goto 203 dX11_labels_199 (by decide) ?_
    have hE : x_mo_labels al ac rj ro n xr = (true, ac ||| a1_0, rj ||| a4_0, a9_0) := by simp only [x_mo_labels, x1, x4, x9, if_neg b195]
    rw [hE]
    exact q_ireturn dX11_labels_203 rfl rfl (by omega) (by omega) ⟨rfl, smo10, p10⟩