/-! the law's turn: labels -/
theorem z_orZ (x : Int32) : x ||| (0 : Int32) = x := z_bi_ext fun j _ => by rw [z_bi_or, z_bi_0, Bool.or_false]
theorem z_mskS {n : Nat} {x : Int32} (h : z_sub n 0 x) (hn : n ≤ 32) : z_msk x n = x := z_bi_ext fun i hi => by
  rw [z_mskb _ hi _ hn]
  cases e : z_bi x i with
  | false => rfl
  | true =>
    rw [decide_eq_true (h i hi e).1]
    rfl
theorem z_mskT {x : Int32} {j : Nat} (e : z_bi x j = true) : z_msk x (j + 1) = z_msk x j ||| ((1 : Int32) <<< (nI j &&& 31)) := by
  show (if z_bi x j = true then _ else _) = _
  rw [if_pos e]
theorem z_mskF {x : Int32} {j : Nat} (e : z_bi x j = false) : z_msk x (j + 1) = z_msk x j := by
  show (if z_bi x j = true then _ else _) = _
  rw [if_neg (by rw [e]; exact Bool.false_ne_true)]
section LAB
variable {g : q_G} {d mc ms : Nat} {Q : q_O → q_H → Prop} {s : ZS} {B : Nat}
theorem g_dis (V : z_V B s) {j : Nat} (hj : j < 32) (h : z_bi (zAc s) j = true) : z_bi (zRj s) j = false := by
  obtain ⟨⟨k, h1, -⟩, -⟩ := g_lab V
  exact (h1 j hj h).2
theorem g_ltA {v : Nat} (hv : v < 32) (h : z_bi (zAc s) v = true) : zLt s v = 97 := by
  unfold zLt x_lb_letter
  rw [if_pos (by rw [z_has_bt _ hv]; exact h)]
theorem g_ltR {v : Nat} (hv : v < 32) (h : z_bi (zAc s) v = false) (h2 : z_bi (zRj s) v = true) : zLt s v = 114 := by
  unfold zLt x_lb_letter
  rw [if_neg (by rw [z_has_bt _ hv, h]; exact Bool.false_ne_true), if_pos (by rw [z_has_bt _ hv]; exact h2)]
theorem g_ltU {v : Nat} (hv : v < 32) (h : z_bi (zAc s) v = false) (h2 : z_bi (zRj s) v = false) : zLt s v = 117 := by
  unfold zLt x_lb_letter
  rw [if_neg (by rw [z_has_bt _ hv, h]; exact Bool.false_ne_true), if_neg (by rw [z_has_bt _ hv, h2]; exact Bool.false_ne_true)]
set_option maxRecDepth 100000 in
set_option maxHeartbeats 8000000 in
theorem l_lab {t na nb a9 ri rj KC KS : Nat} {a8 : Int32} (V : z_V B s) (ho : q_isold g 0) (hd : 30 ≤ d) (hKC : KC ≤ mc) (hKS : KS ≤ ms)
    (K : ∀ kc ks h lc fl, z_X h s lc fl → z_arr 0 h ri s.1 s.2.1 → z_arr 0 h rj s.1 s.2.2.2.2.2.1 → kc ≤ KC → ks ≤ KS → q_W g mL_law d mc ms Q kc ks 577 [.ref 0, .ref 100, .int (nI t), .int (nI s.1), .int (nI na), .int (nI nb), .int (nI (z_cn (zAc s) s.1)), .int (nI (s.1 - z_cn (zAc s ||| zRj s) s.1)), .int a8, .int (nI a9), .ref ri, .ref rj, .int (zAc s), .int (zRj s), q_u, q_u, q_u, q_u, q_u, q_u, q_u, q_u, q_u, q_u, q_u, q_u, q_u, q_u, q_u, q_u, q_u, q_u] [] h) :
    ∀ r k kc ks h lc fl p u xin xout, k + r = s.1 → z_X h s lc fl → z_arr 0 h ri s.1 s.2.1 → z_arr 0 h rj s.1 s.2.2.2.2.2.1 → p = z_cn (zAc s) k → u = k - z_cn (zAc s ||| zRj s) k → xin = z_msk (zAc s) k → xout = z_msk (zRj s) k → kc + 1 * r ≤ KC → ks + 6 * r ≤ KS → q_W g mL_law d mc ms Q kc ks 480 [.ref 0, .ref 100, .int (nI t), .int (nI s.1), .int (nI na), .int (nI nb), .int (nI p), .int (nI u), .int a8, .int (nI a9), .ref ri, .ref rj, .int xin, .int xout, .int (nI k), q_u, q_u, q_u, q_u, q_u, q_u, q_u, q_u, q_u, q_u, q_u, q_u, q_u, q_u, q_u, q_u, q_u] [] h := by
  have h8 := V.1.1
  intro r
  induction r with
  | zero =>
    intro k kc ks h lc fl p u xin xout hr X A B hp hu hin hout hkc hks
    have e : k = s.1 := by omega
    subst e
    have g1 := g_sub V
    have e1 : z_msk (zAc s) s.1 = zAc s := z_mskS (z_subL g1) (by omega)
    have e2 : z_msk (zRj s) s.1 = zRj s := z_mskS (fun j hj q => g1 j hj (by rw [z_bi_or, q, Bool.or_true])) (by omega)
    rw [e1] at hin
    rw [e2] at hout
    subst hp hu hin hout
    refine q_iload dL_law_480 rfl ?_
    refine q_iload_n dL_law_482 rfl ?_
    refine q_icmp_ge 577 dL_law_483 (by decide) (fun b => ?_) (fun b => absurd ((nI_leI (by omega) (by omega)).mpr (by omega)) b)
    refine q_forget 14 ?_
    change q_W _ _ _ _ _ _ _ _ 577 [.ref 0, .ref 100, .int (nI t), .int (nI s.1), .int (nI na), .int (nI nb), .int (nI (z_cn (zAc s) s.1)), .int (nI (s.1 - z_cn (zAc s ||| zRj s) s.1)), .int a8, .int (nI a9), .ref ri, .ref rj, .int (zAc s), .int (zRj s), q_u, q_u, q_u, q_u, q_u, q_u, q_u, q_u, q_u, q_u, q_u, q_u, q_u, q_u, q_u, q_u, q_u, q_u] [] _
    exact K _ _ h _ _ X A B (by omega) (by omega)
  | succ r ih =>
    intro k kc ks h lc fl p u xin xout hr X A B hp hu hin hout hkc hks
    have hk : k < s.1 := by omega
    have hcn : z_cn (zAc s) (k + 1) = z_cn (zAc s) k + if z_bi (zAc s) k then 1 else 0 := rfl
    have hcu : z_cn (zAc s ||| zRj s) (k + 1) = z_cn (zAc s ||| zRj s) k + if z_bi (zAc s ||| zRj s) k then 1 else 0 := rfl
    have hcl := z_cn_le (zAc s ||| zRj s) k
    rw [z_bi_or] at hcu
    refine q_iload dL_law_480 rfl ?_
    refine q_iload_n dL_law_482 rfl ?_
    refine q_icmp_ge 577 dL_law_483 (by decide) (fun b => absurd ((nI_leI (by omega) (by omega)).mp b) (by omega)) (fun b => ?_)
    refine q_aload_n (by decide) dL_law_486 rfl ?_
    refine q_aload A.r0 dL_law_487 rfl ?_
    refine q_iload dL_law_489 rfl ?_
    refine a_ld A dL_law_491 (by omega) (by omega) ?_
    change q_W _ _ _ _ _ _ _ _ 492 [.ref 0, .ref 100, .int (nI t), .int (nI s.1), .int (nI na), .int (nI nb), .int (nI p), .int (nI u), .int a8, .int (nI a9), .ref ri, .ref rj, .int xin, .int xout, .int (nI k), q_u, q_u, q_u, q_u, q_u, q_u, q_u, q_u, q_u, q_u, q_u, q_u, q_u, q_u, q_u, q_u, q_u] [.int (s.2.1 k), .ref 100] _
    obtain ⟨fo1, ho1⟩ := X.obj
    refine q_invV (mc' := 1) (ms' := 6) (d' := d - 1) (as := [.int (s.2.1 k)]) dL_law_492 kM_X10_status kL_L_199 kI_X10_status kS_X10_status rfl (kC_X10.1) ho1 rfl rfl (Nat.le_of_ble_eq_true rfl) (by omega) (by decide) (by omega) (by omega) (k_status (d := d - 1) X V hk (by omega)) (q_kC (fun h1 hB => ?_)) q_xC
    obtain ⟨X1, z_1⟩ := hB
    have A_1 := A.zone z_1
    have B_1 := B.zone z_1
    change q_W _ _ _ _ _ _ _ _ 495 [.ref 0, .ref 100, .int (nI t), .int (nI s.1), .int (nI na), .int (nI nb), .int (nI p), .int (nI u), .int a8, .int (nI a9), .ref ri, .ref rj, .int xin, .int xout, .int (nI k), q_u, q_u, q_u, q_u, q_u, q_u, q_u, q_u, q_u, q_u, q_u, q_u, q_u, q_u, q_u, q_u, q_u] [.int (zLt s k)] _
    refine q_istore dL_law_495 (by decide) rfl ?_
    change q_W _ _ _ _ _ _ _ _ 497 [.ref 0, .ref 100, .int (nI t), .int (nI s.1), .int (nI na), .int (nI nb), .int (nI p), .int (nI u), .int a8, .int (nI a9), .ref ri, .ref rj, .int xin, .int xout, .int (nI k), .int (zLt s k), q_u, q_u, q_u, q_u, q_u, q_u, q_u, q_u, q_u, q_u, q_u, q_u, q_u, q_u, q_u, q_u] [] _
    cases ha : z_bi (zAc s) k with
    | true =>
      have hb := g_dis V (by omega) ha
      have hl := g_ltA (s := s) (by omega) ha
      refine q_iload dL_law_497 rfl ?_
      refine q_iload dL_law_499 rfl ?_
      refine q_bipush (v := 97) dL_law_501 rfl ?_
      refine q_icmp_ne 513 dL_law_503 (by decide) (fun b => absurd hl b) (fun b => ?_)
      refine q_iconst (v := 1) dL_law_506 rfl ?_
      refine q_iload dL_law_507 rfl ?_
      refine q_ishl dL_law_509 ?_
      refine q_goto 514 dL_law_510 (by decide) ?_
      refine q_ior dL_law_514 ?_
      refine q_istore dL_law_515 (by decide) rfl ?_
      change q_W _ _ _ _ _ _ _ _ 517 [.ref 0, .ref 100, .int (nI t), .int (nI s.1), .int (nI na), .int (nI nb), .int (nI p), .int (nI u), .int a8, .int (nI a9), .ref ri, .ref rj, .int (xin ||| ((((1 : Int32)) <<< (((nI k)) &&& 31)))), .int xout, .int (nI k), .int (zLt s k), q_u, q_u, q_u, q_u, q_u, q_u, q_u, q_u, q_u, q_u, q_u, q_u, q_u, q_u, q_u, q_u] [] _
      refine q_iload dL_law_517 rfl ?_
      refine q_iload dL_law_519 rfl ?_
      refine q_bipush (v := 114) dL_law_521 rfl ?_
      refine q_icmp_ne 533 dL_law_523 (by decide) (fun b => ?_) (fun b => absurd b (show ¬ zLt s k = 114 by rw [hl]; decide))
      refine q_iconst (v := 0) dL_law_533 rfl ?_
      refine q_ior dL_law_534 ?_
      refine q_istore dL_law_535 (by decide) rfl ?_
      change q_W _ _ _ _ _ _ _ _ 537 [.ref 0, .ref 100, .int (nI t), .int (nI s.1), .int (nI na), .int (nI nb), .int (nI p), .int (nI u), .int a8, .int (nI a9), .ref ri, .ref rj, .int (xin ||| ((((1 : Int32)) <<< (((nI k)) &&& 31)))), .int (xout ||| 0), .int (nI k), .int (zLt s k), q_u, q_u, q_u, q_u, q_u, q_u, q_u, q_u, q_u, q_u, q_u, q_u, q_u, q_u, q_u, q_u] [] _
      refine q_iload dL_law_537 rfl ?_
      refine q_iload dL_law_539 rfl ?_
      refine q_bipush (v := 97) dL_law_541 rfl ?_
      refine q_icmp_ne 550 dL_law_543 (by decide) (fun b => absurd hl b) (fun b => ?_)
      refine q_iconst (v := 1) dL_law_546 rfl ?_
      refine q_goto 551 dL_law_547 (by decide) ?_
      refine q_iaddN (a := p) (b := 1) dL_law_551 ?_
      refine q_istore dL_law_552 (by decide) rfl ?_
      change q_W _ _ _ _ _ _ _ _ 554 [.ref 0, .ref 100, .int (nI t), .int (nI s.1), .int (nI na), .int (nI nb), .int (nI (p + 1)), .int (nI u), .int a8, .int (nI a9), .ref ri, .ref rj, .int (xin ||| ((((1 : Int32)) <<< (((nI k)) &&& 31)))), .int (xout ||| 0), .int (nI k), .int (zLt s k), q_u, q_u, q_u, q_u, q_u, q_u, q_u, q_u, q_u, q_u, q_u, q_u, q_u, q_u, q_u, q_u] [] _
      refine q_iload dL_law_554 rfl ?_
      refine q_iload dL_law_556 rfl ?_
      refine q_bipush (v := 117) dL_law_558 rfl ?_
      refine q_icmp_ne 567 dL_law_560 (by decide) (fun b => ?_) (fun b => absurd b (show ¬ zLt s k = 117 by rw [hl]; decide))
      refine q_iconst (v := 0) dL_law_567 rfl ?_
      refine q_iaddN (a := u) (b := 0) dL_law_568 ?_
      refine q_istore dL_law_569 (by decide) rfl ?_
      change q_W _ _ _ _ _ _ _ _ 571 [.ref 0, .ref 100, .int (nI t), .int (nI s.1), .int (nI na), .int (nI nb), .int (nI (p + 1)), .int (nI (u + 0)), .int a8, .int (nI a9), .ref ri, .ref rj, .int (xin ||| ((((1 : Int32)) <<< (((nI k)) &&& 31)))), .int (xout ||| 0), .int (nI k), .int (zLt s k), q_u, q_u, q_u, q_u, q_u, q_u, q_u, q_u, q_u, q_u, q_u, q_u, q_u, q_u, q_u, q_u] [] _
      refine q_forget 15 ?_
      change q_W _ _ _ _ _ _ _ _ 571 [.ref 0, .ref 100, .int (nI t), .int (nI s.1), .int (nI na), .int (nI nb), .int (nI (p + 1)), .int (nI (u + 0)), .int a8, .int (nI a9), .ref ri, .ref rj, .int (xin ||| ((((1 : Int32)) <<< (((nI k)) &&& 31)))), .int (xout ||| 0), .int (nI k), q_u, q_u, q_u, q_u, q_u, q_u, q_u, q_u, q_u, q_u, q_u, q_u, q_u, q_u, q_u, q_u, q_u] [] _
      refine q_iinc (x := nI k) (v := nI (k + 1)) dL_law_571 rfl (nI_add _ 1) rfl ?_
      change q_W _ _ _ _ _ _ _ _ 574 [.ref 0, .ref 100, .int (nI t), .int (nI s.1), .int (nI na), .int (nI nb), .int (nI (p + 1)), .int (nI (u + 0)), .int a8, .int (nI a9), .ref ri, .ref rj, .int (xin ||| ((((1 : Int32)) <<< (((nI k)) &&& 31)))), .int (xout ||| 0), .int (nI (k + 1)), q_u, q_u, q_u, q_u, q_u, q_u, q_u, q_u, q_u, q_u, q_u, q_u, q_u, q_u, q_u, q_u, q_u] [] _
      refine q_goto 480 dL_law_574 (by decide) ?_
      rw [ha, hb] at hcu
      rw [ha] at hcn
      exact ih (k + 1) _ _ h1 _ _ (p + 1) (u + 0) _ _ (by omega) X1 A_1 B_1 (by rw [hcn, hp]; rfl) (by rw [hcu, hu]; show _ = k + 1 - (_ + 1); omega) (by rw [z_mskT ha, ← hin]) (by rw [z_mskF hb, ← hout, z_orZ]) (by omega) (by omega)
    | false =>
      cases hb : z_bi (zRj s) k with
      | true =>
        have hl := g_ltR (s := s) (by omega) ha hb
        refine q_iload dL_law_497 rfl ?_
        refine q_iload dL_law_499 rfl ?_
        refine q_bipush (v := 97) dL_law_501 rfl ?_
        refine q_icmp_ne 513 dL_law_503 (by decide) (fun b => ?_) (fun b => absurd b (show ¬ zLt s k = 97 by rw [hl]; decide))
        refine q_iconst (v := 0) dL_law_513 rfl ?_
        refine q_ior dL_law_514 ?_
        refine q_istore dL_law_515 (by decide) rfl ?_
        change q_W _ _ _ _ _ _ _ _ 517 [.ref 0, .ref 100, .int (nI t), .int (nI s.1), .int (nI na), .int (nI nb), .int (nI p), .int (nI u), .int a8, .int (nI a9), .ref ri, .ref rj, .int (xin ||| 0), .int xout, .int (nI k), .int (zLt s k), q_u, q_u, q_u, q_u, q_u, q_u, q_u, q_u, q_u, q_u, q_u, q_u, q_u, q_u, q_u, q_u] [] _
        refine q_iload dL_law_517 rfl ?_
        refine q_iload dL_law_519 rfl ?_
        refine q_bipush (v := 114) dL_law_521 rfl ?_
        refine q_icmp_ne 533 dL_law_523 (by decide) (fun b => absurd hl b) (fun b => ?_)
        refine q_iconst (v := 1) dL_law_526 rfl ?_
        refine q_iload dL_law_527 rfl ?_
        refine q_ishl dL_law_529 ?_
        refine q_goto 534 dL_law_530 (by decide) ?_
        refine q_ior dL_law_534 ?_
        refine q_istore dL_law_535 (by decide) rfl ?_
        change q_W _ _ _ _ _ _ _ _ 537 [.ref 0, .ref 100, .int (nI t), .int (nI s.1), .int (nI na), .int (nI nb), .int (nI p), .int (nI u), .int a8, .int (nI a9), .ref ri, .ref rj, .int (xin ||| 0), .int (xout ||| ((((1 : Int32)) <<< (((nI k)) &&& 31)))), .int (nI k), .int (zLt s k), q_u, q_u, q_u, q_u, q_u, q_u, q_u, q_u, q_u, q_u, q_u, q_u, q_u, q_u, q_u, q_u] [] _
        refine q_iload dL_law_537 rfl ?_
        refine q_iload dL_law_539 rfl ?_
        refine q_bipush (v := 97) dL_law_541 rfl ?_
        refine q_icmp_ne 550 dL_law_543 (by decide) (fun b => ?_) (fun b => absurd b (show ¬ zLt s k = 97 by rw [hl]; decide))
        refine q_iconst (v := 0) dL_law_550 rfl ?_
        refine q_iaddN (a := p) (b := 0) dL_law_551 ?_
        refine q_istore dL_law_552 (by decide) rfl ?_
        change q_W _ _ _ _ _ _ _ _ 554 [.ref 0, .ref 100, .int (nI t), .int (nI s.1), .int (nI na), .int (nI nb), .int (nI (p + 0)), .int (nI u), .int a8, .int (nI a9), .ref ri, .ref rj, .int (xin ||| 0), .int (xout ||| ((((1 : Int32)) <<< (((nI k)) &&& 31)))), .int (nI k), .int (zLt s k), q_u, q_u, q_u, q_u, q_u, q_u, q_u, q_u, q_u, q_u, q_u, q_u, q_u, q_u, q_u, q_u] [] _
        refine q_iload dL_law_554 rfl ?_
        refine q_iload dL_law_556 rfl ?_
        refine q_bipush (v := 117) dL_law_558 rfl ?_
        refine q_icmp_ne 567 dL_law_560 (by decide) (fun b => ?_) (fun b => absurd b (show ¬ zLt s k = 117 by rw [hl]; decide))
        refine q_iconst (v := 0) dL_law_567 rfl ?_
        refine q_iaddN (a := u) (b := 0) dL_law_568 ?_
        refine q_istore dL_law_569 (by decide) rfl ?_
        change q_W _ _ _ _ _ _ _ _ 571 [.ref 0, .ref 100, .int (nI t), .int (nI s.1), .int (nI na), .int (nI nb), .int (nI (p + 0)), .int (nI (u + 0)), .int a8, .int (nI a9), .ref ri, .ref rj, .int (xin ||| 0), .int (xout ||| ((((1 : Int32)) <<< (((nI k)) &&& 31)))), .int (nI k), .int (zLt s k), q_u, q_u, q_u, q_u, q_u, q_u, q_u, q_u, q_u, q_u, q_u, q_u, q_u, q_u, q_u, q_u] [] _
        refine q_forget 15 ?_
        change q_W _ _ _ _ _ _ _ _ 571 [.ref 0, .ref 100, .int (nI t), .int (nI s.1), .int (nI na), .int (nI nb), .int (nI (p + 0)), .int (nI (u + 0)), .int a8, .int (nI a9), .ref ri, .ref rj, .int (xin ||| 0), .int (xout ||| ((((1 : Int32)) <<< (((nI k)) &&& 31)))), .int (nI k), q_u, q_u, q_u, q_u, q_u, q_u, q_u, q_u, q_u, q_u, q_u, q_u, q_u, q_u, q_u, q_u, q_u] [] _
        refine q_iinc (x := nI k) (v := nI (k + 1)) dL_law_571 rfl (nI_add _ 1) rfl ?_
        change q_W _ _ _ _ _ _ _ _ 574 [.ref 0, .ref 100, .int (nI t), .int (nI s.1), .int (nI na), .int (nI nb), .int (nI (p + 0)), .int (nI (u + 0)), .int a8, .int (nI a9), .ref ri, .ref rj, .int (xin ||| 0), .int (xout ||| ((((1 : Int32)) <<< (((nI k)) &&& 31)))), .int (nI (k + 1)), q_u, q_u, q_u, q_u, q_u, q_u, q_u, q_u, q_u, q_u, q_u, q_u, q_u, q_u, q_u, q_u, q_u] [] _
        refine q_goto 480 dL_law_574 (by decide) ?_
        rw [ha, hb] at hcu
        rw [ha] at hcn
        exact ih (k + 1) _ _ h1 _ _ (p + 0) (u + 0) _ _ (by omega) X1 A_1 B_1 (by rw [hcn, hp]; rfl) (by rw [hcu, hu]; show _ = k + 1 - (_ + 1); omega) (by rw [z_mskF ha, ← hin, z_orZ]) (by rw [z_mskT hb, ← hout]) (by omega) (by omega)
      | false =>
        have hl := g_ltU (s := s) (by omega) ha hb
        refine q_iload dL_law_497 rfl ?_
        refine q_iload dL_law_499 rfl ?_
        refine q_bipush (v := 97) dL_law_501 rfl ?_
        refine q_icmp_ne 513 dL_law_503 (by decide) (fun b => ?_) (fun b => absurd b (show ¬ zLt s k = 97 by rw [hl]; decide))
        refine q_iconst (v := 0) dL_law_513 rfl ?_
        refine q_ior dL_law_514 ?_
        refine q_istore dL_law_515 (by decide) rfl ?_
        change q_W _ _ _ _ _ _ _ _ 517 [.ref 0, .ref 100, .int (nI t), .int (nI s.1), .int (nI na), .int (nI nb), .int (nI p), .int (nI u), .int a8, .int (nI a9), .ref ri, .ref rj, .int (xin ||| 0), .int xout, .int (nI k), .int (zLt s k), q_u, q_u, q_u, q_u, q_u, q_u, q_u, q_u, q_u, q_u, q_u, q_u, q_u, q_u, q_u, q_u] [] _
        refine q_iload dL_law_517 rfl ?_
        refine q_iload dL_law_519 rfl ?_
        refine q_bipush (v := 114) dL_law_521 rfl ?_
        refine q_icmp_ne 533 dL_law_523 (by decide) (fun b => ?_) (fun b => absurd b (show ¬ zLt s k = 114 by rw [hl]; decide))
        refine q_iconst (v := 0) dL_law_533 rfl ?_
        refine q_ior dL_law_534 ?_
        refine q_istore dL_law_535 (by decide) rfl ?_
        change q_W _ _ _ _ _ _ _ _ 537 [.ref 0, .ref 100, .int (nI t), .int (nI s.1), .int (nI na), .int (nI nb), .int (nI p), .int (nI u), .int a8, .int (nI a9), .ref ri, .ref rj, .int (xin ||| 0), .int (xout ||| 0), .int (nI k), .int (zLt s k), q_u, q_u, q_u, q_u, q_u, q_u, q_u, q_u, q_u, q_u, q_u, q_u, q_u, q_u, q_u, q_u] [] _
        refine q_iload dL_law_537 rfl ?_
        refine q_iload dL_law_539 rfl ?_
        refine q_bipush (v := 97) dL_law_541 rfl ?_
        refine q_icmp_ne 550 dL_law_543 (by decide) (fun b => ?_) (fun b => absurd b (show ¬ zLt s k = 97 by rw [hl]; decide))
        refine q_iconst (v := 0) dL_law_550 rfl ?_
        refine q_iaddN (a := p) (b := 0) dL_law_551 ?_
        refine q_istore dL_law_552 (by decide) rfl ?_
        change q_W _ _ _ _ _ _ _ _ 554 [.ref 0, .ref 100, .int (nI t), .int (nI s.1), .int (nI na), .int (nI nb), .int (nI (p + 0)), .int (nI u), .int a8, .int (nI a9), .ref ri, .ref rj, .int (xin ||| 0), .int (xout ||| 0), .int (nI k), .int (zLt s k), q_u, q_u, q_u, q_u, q_u, q_u, q_u, q_u, q_u, q_u, q_u, q_u, q_u, q_u, q_u, q_u] [] _
        refine q_iload dL_law_554 rfl ?_
        refine q_iload dL_law_556 rfl ?_
        refine q_bipush (v := 117) dL_law_558 rfl ?_
        refine q_icmp_ne 567 dL_law_560 (by decide) (fun b => absurd hl b) (fun b => ?_)
        refine q_iconst (v := 1) dL_law_563 rfl ?_
        refine q_goto 568 dL_law_564 (by decide) ?_
        refine q_iaddN (a := u) (b := 1) dL_law_568 ?_
        refine q_istore dL_law_569 (by decide) rfl ?_
        change q_W _ _ _ _ _ _ _ _ 571 [.ref 0, .ref 100, .int (nI t), .int (nI s.1), .int (nI na), .int (nI nb), .int (nI (p + 0)), .int (nI (u + 1)), .int a8, .int (nI a9), .ref ri, .ref rj, .int (xin ||| 0), .int (xout ||| 0), .int (nI k), .int (zLt s k), q_u, q_u, q_u, q_u, q_u, q_u, q_u, q_u, q_u, q_u, q_u, q_u, q_u, q_u, q_u, q_u] [] _
        refine q_forget 15 ?_
        change q_W _ _ _ _ _ _ _ _ 571 [.ref 0, .ref 100, .int (nI t), .int (nI s.1), .int (nI na), .int (nI nb), .int (nI (p + 0)), .int (nI (u + 1)), .int a8, .int (nI a9), .ref ri, .ref rj, .int (xin ||| 0), .int (xout ||| 0), .int (nI k), q_u, q_u, q_u, q_u, q_u, q_u, q_u, q_u, q_u, q_u, q_u, q_u, q_u, q_u, q_u, q_u, q_u] [] _
        refine q_iinc (x := nI k) (v := nI (k + 1)) dL_law_571 rfl (nI_add _ 1) rfl ?_
        change q_W _ _ _ _ _ _ _ _ 574 [.ref 0, .ref 100, .int (nI t), .int (nI s.1), .int (nI na), .int (nI nb), .int (nI (p + 0)), .int (nI (u + 1)), .int a8, .int (nI a9), .ref ri, .ref rj, .int (xin ||| 0), .int (xout ||| 0), .int (nI (k + 1)), q_u, q_u, q_u, q_u, q_u, q_u, q_u, q_u, q_u, q_u, q_u, q_u, q_u, q_u, q_u, q_u, q_u] [] _
        refine q_goto 480 dL_law_574 (by decide) ?_
        rw [ha, hb] at hcu
        rw [ha] at hcn
        exact ih (k + 1) _ _ h1 _ _ (p + 0) (u + 1) _ _ (by omega) X1 A_1 B_1 (by rw [hcn, hp]; rfl) (by rw [hcu, hu]; show _ = k + 1 - (_ + 0); omega) (by rw [z_mskF ha, ← hin, z_orZ]) (by rw [z_mskF hb, ← hout, z_orZ]) (by omega) (by omega)
end LAB
