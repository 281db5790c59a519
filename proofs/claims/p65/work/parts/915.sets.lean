/-! the law's turn: all sets -/
/-- whether set x is admissible, as all sets tell -/
def zD (s : ZS) (x : Nat) : Bool := x_mo_isAdmissible (zAl s) s.1 (nI x)
def zGd (s : ZS) (m : Nat) : Nat → Int32 := fun x => if x < m then z_b (zD s x) else 0
def zPb (s : ZS) (x : Nat) : Bool := !decide ((x_ex_find (fun _ => 0) (fun _ => 0) s.1 s.2.2.2.2.2.1).1 x = 0)
def zCd (s : ZS) : Nat → Int32
  | 0 => 0
  | m + 1 => if zPb s m = true then zCd s m ||| nI m else zCd s m
def zCt (s : ZS) : Nat → Int32
  | 0 => nI (2 ^ s.1 - 1)
  | m + 1 => if zPb s m = true then zCt s m &&& nI m else zCt s m
def zTg (s : ZS) (a b : Nat) : Nat → Bool
  | 0 => false
  | m + 1 => if zPb s m = true then (zTg s a b m || (z_bi (nI m) a && z_bi (nI m) b)) else zTg s a b m
theorem z_orC (x y : Int32) : x ||| y = y ||| x := z_bi_ext fun j _ => by rw [z_bi_or, z_bi_or, Bool.or_comm]
section SETM
variable {B : Nat} {s : ZS}
theorem zGd_st {m : Nat} {x : Int32} (e : x = z_b (zD s m)) (i : Nat) : upd (zGd s m) m x i = zGd s (m + 1) i := by
  by_cases q : i = m
  · subst q
    rw [upd_eq, e]
    unfold zGd
    rw [if_pos (by omega)]
  · rw [upd_ne q]
    unfold zGd
    by_cases c : i < m
    · rw [if_pos c, if_pos (by omega)]
    · rw [if_neg c, if_neg (by omega)]
theorem zGd_at {m x : Nat} (h : x < m) : zGd s m x = z_b (zD s x) := by
  unfold zGd
  rw [if_pos h]
theorem adm_1 {m : Nat} (h : ¬ x_mo_attackersOf (zAl s) s.1 (nI m) &&& nI m = 0) : x_mo_isFree (zAl s) s.1 (nI m) = false ∧ zD s m = false := by
  have e : x_mo_isFree (zAl s) s.1 (nI m) = false := by
    unfold x_mo_isFree
    rw [if_neg h]
  refine ⟨e, ?_⟩
  unfold zD x_mo_isAdmissible
  rw [if_neg (by rw [e]; exact Bool.false_ne_true)]
theorem adm_f {m : Nat} (h : x_mo_attackersOf (zAl s) s.1 (nI m) &&& nI m = 0) : x_mo_isFree (zAl s) s.1 (nI m) = true := by
  unfold x_mo_isFree
  rw [if_pos h]
theorem adm_2 {m : Nat} (h : x_mo_attackersOf (zAl s) s.1 (nI m) &&& nI m = 0) (h2 : ¬ x_mo_attackersOf (zAl s) s.1 (nI m) &&& (x_mo_attackedBy (zAl s) s.1 (nI m) ^^^ (-1 : Int32)) = 0) : zD s m = false := by
  unfold zD x_mo_isAdmissible
  rw [if_pos (adm_f h), if_neg h2]
theorem adm_3 {m : Nat} (h : x_mo_attackersOf (zAl s) s.1 (nI m) &&& nI m = 0) (h2 : x_mo_attackersOf (zAl s) s.1 (nI m) &&& (x_mo_attackedBy (zAl s) s.1 (nI m) ^^^ (-1 : Int32)) = 0) : zD s m = true := by
  unfold zD x_mo_isAdmissible
  rw [if_pos (adm_f h), if_pos h2]
theorem g_admE (V : z_V B s) (m : Nat) : x_ex_isAdmissible s.1 s.2.2.2.2.2.1 (nI m) = zD s m := z_adm V.1.1 (g_att V) (z_attS V.1) (nI m)
theorem g_pb (V : z_V B s) {x : Nat} (hx : x < 2 ^ s.1) : zPb s x = true ↔ z_prf (zD s) s.1 x := by
  have h := z_find14 (D := zD s) (att := s.2.2.2.2.2.1) V.1.1 (fun m _ => g_admE V m) (2 ^ s.1) 0 (fun _ => 0) (fun _ => 0) (Nat.le_refl _) (fun m h1 h2 => absurd h2 (by omega))
  have h2 := (h x (Nat.zero_le _) hx).2
  have hp : 0 < 2 ^ s.1 := Nat.two_pow_pos _
  have e : (x_ex_find (fun _ => 0) (fun _ => 0) s.1 s.2.2.2.2.2.1).1 = (x_ex_find_14 s.1 s.2.2.2.2.2.1 (2 ^ s.1) 0 (fun _ => 0) (fun _ => 0)).2 := by
    unfold x_ex_find
    rw [show 2 ^ s.1 - 1 + 1 = 2 ^ s.1 by omega]
  unfold zPb
  rw [e, Bool.not_eq_true', decide_eq_false_iff_not]
  exact h2
end SETM
section SETS
variable {g : q_G} {d mc ms : Nat} {Q : q_O → q_H → Prop} {s : ZS} {B : Nat}
set_option maxRecDepth 100000 in
set_option maxHeartbeats 8000000 in
theorem l_set1 {t na nb a9 p u ri rj rg : Nat} {a8 xin xout : Int32} {m kc ks : Nat} {st gr : Int32} {h : q_H} (V : z_V B s) (Bf : z_arr 0 h rj s.1 s.2.2.2.2.2.1) (K : q_W g mL_law d mc ms Q kc ks 684 [.ref 0, .ref 100, .int (nI t), .int (nI s.1), .int (nI na), .int (nI nb), .int (nI p), .int (nI u), .int a8, .int (nI a9), .ref ri, .ref rj, .int xin, .int xout, .int st, .int 0, .int gr, .int 0, .int (nI (2 ^ s.1 - 1)), .ref rg, .int (nI m), .int (x_mo_attackedBy (zAl s) s.1 (nI m)), .int (x_mo_attackersOf (zAl s) s.1 (nI m)), .int (nI s.1), q_u, q_u, q_u, q_u, q_u, q_u, q_u, q_u] [] h) :
    ∀ r k c1 c2, k + r = s.1 → x_mo_attackedBy_4 (zAl s) s.1 (nI m) r k c1 = x_mo_attackedBy (zAl s) s.1 (nI m) → x_mo_attackersOf_4 (zAl s) s.1 (nI m) r k c2 = x_mo_attackersOf (zAl s) s.1 (nI m) → q_W g mL_law d mc ms Q kc ks 623 [.ref 0, .ref 100, .int (nI t), .int (nI s.1), .int (nI na), .int (nI nb), .int (nI p), .int (nI u), .int a8, .int (nI a9), .ref ri, .ref rj, .int xin, .int xout, .int st, .int 0, .int gr, .int 0, .int (nI (2 ^ s.1 - 1)), .ref rg, .int (nI m), .int c1, .int c2, .int (nI k), q_u, q_u, q_u, q_u, q_u, q_u, q_u, q_u] [] h := by
  have h8 := V.1.1
  intro r
  induction r with
  | zero =>
    intro k c1 c2 hr e1 e2
    have e : k = s.1 := by omega
    subst e
    have e1 : c1 = x_mo_attackedBy (zAl s) s.1 (nI m) := e1
    have e2 : c2 = x_mo_attackersOf (zAl s) s.1 (nI m) := e2
    rw [e1, e2]
    refine q_iload dL_law_623 rfl ?_
    refine q_iload_n dL_law_625 rfl ?_
    refine q_icmp_ge 684 dL_law_626 (by decide) (fun b => ?_) (fun b => absurd ((nI_leI (by omega) (by omega)).mpr (by omega)) b)
    exact K
  | succ r ih =>
    intro k c1 c2 hr e1 e2
    have hk : k < s.1 := by omega
    simp only [x_mo_attackedBy_4] at e1
    simp only [x_mo_attackersOf_4] at e2
    rw [g_att V k hk] at e1 e2
    refine q_iload dL_law_623 rfl ?_
    refine q_iload_n dL_law_625 rfl ?_
    refine q_icmp_ge 684 dL_law_626 (by decide) (fun b => absurd ((nI_leI (by omega) (by omega)).mp b) (by omega)) (fun b => ?_)
    refine q_iload dL_law_629 rfl ?_
    refine q_aload Bf.r0 dL_law_631 rfl ?_
    refine q_iload dL_law_633 rfl ?_
    refine a_ld Bf dL_law_635 (by omega) (by omega) ?_
    change q_W _ _ _ _ _ _ _ _ 636 [.ref 0, .ref 100, .int (nI t), .int (nI s.1), .int (nI na), .int (nI nb), .int (nI p), .int (nI u), .int a8, .int (nI a9), .ref ri, .ref rj, .int xin, .int xout, .int st, .int 0, .int gr, .int 0, .int (nI (2 ^ s.1 - 1)), .ref rg, .int (nI m), .int c1, .int c2, .int (nI k), q_u, q_u, q_u, q_u, q_u, q_u, q_u, q_u] [.int (s.2.2.2.2.2.1 k), .int c1] _
    refine q_iload dL_law_636 rfl ?_
    refine q_iand dL_law_638 ?_
    refine q_if_eq 649 dL_law_639 (by decide) (fun b => ?_) (fun b => ?_)
    · rw [if_pos b] at e1
      refine q_iconst (v := 0) dL_law_649 rfl ?_
      refine q_ior dL_law_650 ?_
      refine q_istore dL_law_651 (by decide) rfl ?_
      change q_W _ _ _ _ _ _ _ _ 653 [.ref 0, .ref 100, .int (nI t), .int (nI s.1), .int (nI na), .int (nI nb), .int (nI p), .int (nI u), .int a8, .int (nI a9), .ref ri, .ref rj, .int xin, .int xout, .int st, .int 0, .int gr, .int 0, .int (nI (2 ^ s.1 - 1)), .ref rg, .int (nI m), .int (c1 ||| 0), .int c2, .int (nI k), q_u, q_u, q_u, q_u, q_u, q_u, q_u, q_u] [] _
      refine q_iload dL_law_653 rfl ?_
      refine q_iload dL_law_655 rfl ?_
      refine q_iload dL_law_657 rfl ?_
      refine q_ishr dL_law_659 ?_
      refine q_iconst (v := 1) dL_law_660 rfl ?_
      refine q_iand dL_law_661 ?_
      refine q_iconst (v := 1) dL_law_662 rfl ?_
      refine q_icmp_ne 674 dL_law_663 (by decide) (fun b2 => ?_) (fun b2 => ?_)
      · rw [if_neg b2] at e2
        refine q_iconst (v := 0) dL_law_674 rfl ?_
        refine q_ior dL_law_675 ?_
        refine q_istore dL_law_676 (by decide) rfl ?_
        change q_W _ _ _ _ _ _ _ _ 678 [.ref 0, .ref 100, .int (nI t), .int (nI s.1), .int (nI na), .int (nI nb), .int (nI p), .int (nI u), .int a8, .int (nI a9), .ref ri, .ref rj, .int xin, .int xout, .int st, .int 0, .int gr, .int 0, .int (nI (2 ^ s.1 - 1)), .ref rg, .int (nI m), .int (c1 ||| 0), .int (c2 ||| 0), .int (nI k), q_u, q_u, q_u, q_u, q_u, q_u, q_u, q_u] [] _
        refine q_iinc (x := nI k) (v := nI (k + 1)) dL_law_678 rfl (nI_add _ 1) rfl ?_
        change q_W _ _ _ _ _ _ _ _ 681 [.ref 0, .ref 100, .int (nI t), .int (nI s.1), .int (nI na), .int (nI nb), .int (nI p), .int (nI u), .int a8, .int (nI a9), .ref ri, .ref rj, .int xin, .int xout, .int st, .int 0, .int gr, .int 0, .int (nI (2 ^ s.1 - 1)), .ref rg, .int (nI m), .int (c1 ||| 0), .int (c2 ||| 0), .int (nI (k + 1)), q_u, q_u, q_u, q_u, q_u, q_u, q_u, q_u] [] _
        refine q_goto 623 dL_law_681 (by decide) ?_
        exact ih (k + 1) _ _ (by omega) e1 e2
      · rw [if_pos b2] at e2
        refine q_aload Bf.r0 dL_law_666 rfl ?_
        refine q_iload dL_law_668 rfl ?_
        refine a_ld Bf dL_law_670 (by omega) (by omega) ?_
        change q_W _ _ _ _ _ _ _ _ 671 [.ref 0, .ref 100, .int (nI t), .int (nI s.1), .int (nI na), .int (nI nb), .int (nI p), .int (nI u), .int a8, .int (nI a9), .ref ri, .ref rj, .int xin, .int xout, .int st, .int 0, .int gr, .int 0, .int (nI (2 ^ s.1 - 1)), .ref rg, .int (nI m), .int (c1 ||| 0), .int c2, .int (nI k), q_u, q_u, q_u, q_u, q_u, q_u, q_u, q_u] [.int (s.2.2.2.2.2.1 k), .int c2] _
        refine q_goto 675 dL_law_671 (by decide) ?_
        refine q_ior dL_law_675 ?_
        refine q_istore dL_law_676 (by decide) rfl ?_
        change q_W _ _ _ _ _ _ _ _ 678 [.ref 0, .ref 100, .int (nI t), .int (nI s.1), .int (nI na), .int (nI nb), .int (nI p), .int (nI u), .int a8, .int (nI a9), .ref ri, .ref rj, .int xin, .int xout, .int st, .int 0, .int gr, .int 0, .int (nI (2 ^ s.1 - 1)), .ref rg, .int (nI m), .int (c1 ||| 0), .int (c2 ||| ((s.2.2.2.2.2.1 k))), .int (nI k), q_u, q_u, q_u, q_u, q_u, q_u, q_u, q_u] [] _
        refine q_iinc (x := nI k) (v := nI (k + 1)) dL_law_678 rfl (nI_add _ 1) rfl ?_
        change q_W _ _ _ _ _ _ _ _ 681 [.ref 0, .ref 100, .int (nI t), .int (nI s.1), .int (nI na), .int (nI nb), .int (nI p), .int (nI u), .int a8, .int (nI a9), .ref ri, .ref rj, .int xin, .int xout, .int st, .int 0, .int gr, .int 0, .int (nI (2 ^ s.1 - 1)), .ref rg, .int (nI m), .int (c1 ||| 0), .int (c2 ||| ((s.2.2.2.2.2.1 k))), .int (nI (k + 1)), q_u, q_u, q_u, q_u, q_u, q_u, q_u, q_u] [] _
        refine q_goto 623 dL_law_681 (by decide) ?_
        exact ih (k + 1) _ _ (by omega) e1 e2
    · rw [if_neg b] at e1
      refine q_iconst (v := 1) dL_law_642 rfl ?_
      refine q_iload dL_law_643 rfl ?_
      refine q_ishl dL_law_645 ?_
      refine q_goto 650 dL_law_646 (by decide) ?_
      refine q_ior dL_law_650 ?_
      refine q_istore dL_law_651 (by decide) rfl ?_
      change q_W _ _ _ _ _ _ _ _ 653 [.ref 0, .ref 100, .int (nI t), .int (nI s.1), .int (nI na), .int (nI nb), .int (nI p), .int (nI u), .int a8, .int (nI a9), .ref ri, .ref rj, .int xin, .int xout, .int st, .int 0, .int gr, .int 0, .int (nI (2 ^ s.1 - 1)), .ref rg, .int (nI m), .int (c1 ||| ((((1 : Int32)) <<< (((nI k)) &&& 31)))), .int c2, .int (nI k), q_u, q_u, q_u, q_u, q_u, q_u, q_u, q_u] [] _
      refine q_iload dL_law_653 rfl ?_
      refine q_iload dL_law_655 rfl ?_
      refine q_iload dL_law_657 rfl ?_
      refine q_ishr dL_law_659 ?_
      refine q_iconst (v := 1) dL_law_660 rfl ?_
      refine q_iand dL_law_661 ?_
      refine q_iconst (v := 1) dL_law_662 rfl ?_
      refine q_icmp_ne 674 dL_law_663 (by decide) (fun b2 => ?_) (fun b2 => ?_)
      · rw [if_neg b2] at e2
        refine q_iconst (v := 0) dL_law_674 rfl ?_
        refine q_ior dL_law_675 ?_
        refine q_istore dL_law_676 (by decide) rfl ?_
        change q_W _ _ _ _ _ _ _ _ 678 [.ref 0, .ref 100, .int (nI t), .int (nI s.1), .int (nI na), .int (nI nb), .int (nI p), .int (nI u), .int a8, .int (nI a9), .ref ri, .ref rj, .int xin, .int xout, .int st, .int 0, .int gr, .int 0, .int (nI (2 ^ s.1 - 1)), .ref rg, .int (nI m), .int (c1 ||| ((((1 : Int32)) <<< (((nI k)) &&& 31)))), .int (c2 ||| 0), .int (nI k), q_u, q_u, q_u, q_u, q_u, q_u, q_u, q_u] [] _
        refine q_iinc (x := nI k) (v := nI (k + 1)) dL_law_678 rfl (nI_add _ 1) rfl ?_
        change q_W _ _ _ _ _ _ _ _ 681 [.ref 0, .ref 100, .int (nI t), .int (nI s.1), .int (nI na), .int (nI nb), .int (nI p), .int (nI u), .int a8, .int (nI a9), .ref ri, .ref rj, .int xin, .int xout, .int st, .int 0, .int gr, .int 0, .int (nI (2 ^ s.1 - 1)), .ref rg, .int (nI m), .int (c1 ||| ((((1 : Int32)) <<< (((nI k)) &&& 31)))), .int (c2 ||| 0), .int (nI (k + 1)), q_u, q_u, q_u, q_u, q_u, q_u, q_u, q_u] [] _
        refine q_goto 623 dL_law_681 (by decide) ?_
        exact ih (k + 1) _ _ (by omega) e1 e2
      · rw [if_pos b2] at e2
        refine q_aload Bf.r0 dL_law_666 rfl ?_
        refine q_iload dL_law_668 rfl ?_
        refine a_ld Bf dL_law_670 (by omega) (by omega) ?_
        change q_W _ _ _ _ _ _ _ _ 671 [.ref 0, .ref 100, .int (nI t), .int (nI s.1), .int (nI na), .int (nI nb), .int (nI p), .int (nI u), .int a8, .int (nI a9), .ref ri, .ref rj, .int xin, .int xout, .int st, .int 0, .int gr, .int 0, .int (nI (2 ^ s.1 - 1)), .ref rg, .int (nI m), .int (c1 ||| ((((1 : Int32)) <<< (((nI k)) &&& 31)))), .int c2, .int (nI k), q_u, q_u, q_u, q_u, q_u, q_u, q_u, q_u] [.int (s.2.2.2.2.2.1 k), .int c2] _
        refine q_goto 675 dL_law_671 (by decide) ?_
        refine q_ior dL_law_675 ?_
        refine q_istore dL_law_676 (by decide) rfl ?_
        change q_W _ _ _ _ _ _ _ _ 678 [.ref 0, .ref 100, .int (nI t), .int (nI s.1), .int (nI na), .int (nI nb), .int (nI p), .int (nI u), .int a8, .int (nI a9), .ref ri, .ref rj, .int xin, .int xout, .int st, .int 0, .int gr, .int 0, .int (nI (2 ^ s.1 - 1)), .ref rg, .int (nI m), .int (c1 ||| ((((1 : Int32)) <<< (((nI k)) &&& 31)))), .int (c2 ||| ((s.2.2.2.2.2.1 k))), .int (nI k), q_u, q_u, q_u, q_u, q_u, q_u, q_u, q_u] [] _
        refine q_iinc (x := nI k) (v := nI (k + 1)) dL_law_678 rfl (nI_add _ 1) rfl ?_
        change q_W _ _ _ _ _ _ _ _ 681 [.ref 0, .ref 100, .int (nI t), .int (nI s.1), .int (nI na), .int (nI nb), .int (nI p), .int (nI u), .int a8, .int (nI a9), .ref ri, .ref rj, .int xin, .int xout, .int st, .int 0, .int gr, .int 0, .int (nI (2 ^ s.1 - 1)), .ref rg, .int (nI m), .int (c1 ||| ((((1 : Int32)) <<< (((nI k)) &&& 31)))), .int (c2 ||| ((s.2.2.2.2.2.1 k))), .int (nI (k + 1)), q_u, q_u, q_u, q_u, q_u, q_u, q_u, q_u] [] _
        refine q_goto 623 dL_law_681 (by decide) ?_
        exact ih (k + 1) _ _ (by omega) e1 e2
set_option maxRecDepth 100000 in
set_option maxHeartbeats 8000000 in
theorem l_sets {t na nb a9 p u ri rj rg : Nat} {a8 xin xout : Int32} {kc ks : Nat} {ST GR : Int32} (V : z_V B s) (hd : 30 ≤ d) (hO : ri < rj ∧ rj < rg) (hkc : kc ≤ mc) (hks : ks ≤ ms)
    (K : ∀ h lc fl, z_X h s lc fl → z_arr 0 h ri s.1 s.2.1 → z_arr 0 h rj s.1 s.2.2.2.2.2.1 → z_arr 1 h rg (2 ^ s.1) (zGd s (2 ^ s.1)) → q_W g mL_law d mc ms Q kc ks 774 [.ref 0, .ref 100, .int (nI t), .int (nI s.1), .int (nI na), .int (nI nb), .int (nI p), .int (nI u), .int a8, .int (nI a9), .ref ri, .ref rj, .int xin, .int xout, .int ST, .int 0, .int GR, .int 0, .int (nI (2 ^ s.1 - 1)), .ref rg, q_u, q_u, q_u, q_u, q_u, q_u, q_u, q_u, q_u, q_u, q_u, q_u] [] h) :
    ∀ r m h lc fl st gr, m + r = 2 ^ s.1 → z_X h s lc fl → z_arr 0 h ri s.1 s.2.1 → z_arr 0 h rj s.1 s.2.2.2.2.2.1 → z_arr 1 h rg (2 ^ s.1) (zGd s m) → x_mo_stableCount_9 (zAl s) s.1 r m st = ST → x_ex_sizeOfGreatestAdmissible_10 s.1 s.2.2.2.2.2.1 r m gr = GR → q_W g mL_law d mc ms Q kc ks 606 [.ref 0, .ref 100, .int (nI t), .int (nI s.1), .int (nI na), .int (nI nb), .int (nI p), .int (nI u), .int a8, .int (nI a9), .ref ri, .ref rj, .int xin, .int xout, .int st, .int 0, .int gr, .int 0, .int (nI (2 ^ s.1 - 1)), .ref rg, .int (nI m), q_u, q_u, q_u, q_u, q_u, q_u, q_u, q_u, q_u, q_u, q_u] [] h := by
  have h8 := V.1.1
  have hp8 : 2 ^ s.1 ≤ 256 := Nat.pow_le_pow_right (n := 2) (by omega) h8
  intro r
  induction r with
  | zero =>
    intro m h lc fl st gr hr X A Bf G e1 e2
    have e : m = 2 ^ s.1 := by omega
    have e1 : st = ST := e1
    have e2 : gr = GR := e2
    subst e1 e2 e
    refine q_iload dL_law_606 rfl ?_
    refine q_iconst (v := 1) dL_law_608 rfl ?_
    refine q_iload_n dL_law_609 rfl ?_
    refine q_shl1N (a := s.1) (by omega) dL_law_610 ?_
    refine q_icmp_ge 774 dL_law_611 (by decide) (fun b => ?_) (fun b => absurd ((nI_leI (by omega) (by omega)).mpr (by omega)) b)
    refine q_forget 20 ?_
    change q_W _ _ _ _ _ _ _ _ 774 [.ref 0, .ref 100, .int (nI t), .int (nI s.1), .int (nI na), .int (nI nb), .int (nI p), .int (nI u), .int a8, .int (nI a9), .ref ri, .ref rj, .int xin, .int xout, .int st, .int 0, .int gr, .int 0, .int (nI (2 ^ s.1 - 1)), .ref rg, q_u, q_u, q_u, q_u, q_u, q_u, q_u, q_u, q_u, q_u, q_u, q_u] [] _
    exact K h _ _ X A Bf G
  | succ r ih =>
    intro m h lc fl st gr hr X A Bf G e1 e2
    simp only [x_mo_stableCount_9] at e1
    simp only [x_ex_sizeOfGreatestAdmissible_10] at e2
    rw [g_admE V m] at e2
    refine q_iload dL_law_606 rfl ?_
    refine q_iconst (v := 1) dL_law_608 rfl ?_
    refine q_iload_n dL_law_609 rfl ?_
    refine q_shl1N (a := s.1) (by omega) dL_law_610 ?_
    refine q_icmp_ge 774 dL_law_611 (by decide) (fun b => absurd ((nI_leI (by omega) (by omega)).mp b) (by omega)) (fun b => ?_)
    refine q_iconst (v := 0) dL_law_614 rfl ?_
    refine q_istore dL_law_615 (by decide) rfl ?_
    change q_W _ _ _ _ _ _ _ _ 617 [.ref 0, .ref 100, .int (nI t), .int (nI s.1), .int (nI na), .int (nI nb), .int (nI p), .int (nI u), .int a8, .int (nI a9), .ref ri, .ref rj, .int xin, .int xout, .int st, .int 0, .int gr, .int 0, .int (nI (2 ^ s.1 - 1)), .ref rg, .int (nI m), .int 0, q_u, q_u, q_u, q_u, q_u, q_u, q_u, q_u, q_u, q_u] [] _
    refine q_iconst (v := 0) dL_law_617 rfl ?_
    refine q_istore dL_law_618 (by decide) rfl ?_
    change q_W _ _ _ _ _ _ _ _ 620 [.ref 0, .ref 100, .int (nI t), .int (nI s.1), .int (nI na), .int (nI nb), .int (nI p), .int (nI u), .int a8, .int (nI a9), .ref ri, .ref rj, .int xin, .int xout, .int st, .int 0, .int gr, .int 0, .int (nI (2 ^ s.1 - 1)), .ref rg, .int (nI m), .int 0, .int 0, q_u, q_u, q_u, q_u, q_u, q_u, q_u, q_u, q_u] [] _
    refine q_iconst (v := 0) dL_law_620 rfl ?_
    refine q_istore dL_law_621 (by decide) rfl ?_
    change q_W _ _ _ _ _ _ _ _ 623 [.ref 0, .ref 100, .int (nI t), .int (nI s.1), .int (nI na), .int (nI nb), .int (nI p), .int (nI u), .int a8, .int (nI a9), .ref ri, .ref rj, .int xin, .int xout, .int st, .int 0, .int gr, .int 0, .int (nI (2 ^ s.1 - 1)), .ref rg, .int (nI m), .int 0, .int 0, .int 0, q_u, q_u, q_u, q_u, q_u, q_u, q_u, q_u] [] _
    refine l_set1 V Bf ?_ s.1 0 0 0 (by omega) rfl rfl
    refine q_aload G.r0 dL_law_684 rfl ?_
    refine q_iload dL_law_686 rfl ?_
    refine q_iload dL_law_688 rfl ?_
    refine q_iload dL_law_690 rfl ?_
    refine q_iand dL_law_692 ?_
    refine q_if_ne 710 dL_law_693 (by decide) (fun b => ?_) (fun b => ?_)
    · obtain ⟨hf, ha⟩ := adm_1 b
      rw [if_neg (by rw [hf]; exact Bool.false_ne_true)] at e1
      rw [if_neg (by rw [ha]; exact Bool.false_ne_true)] at e2
      refine q_iconst (v := 0) dL_law_710 rfl ?_
      have b9 := b
      refine a_stZ X G (by decide) dL_law_711 (by omega) (by omega) (fun h1 X1 G1 o1 => ?_)
      have A1 := A.ow o1 (by omega)
      have B1 := Bf.ow o1 (by omega)
      have G2 := G1.eq (fun i _ => zGd_st (by rw [ha]; rfl) i)
      change q_W _ _ _ _ _ _ _ _ 712 [.ref 0, .ref 100, .int (nI t), .int (nI s.1), .int (nI na), .int (nI nb), .int (nI p), .int (nI u), .int a8, .int (nI a9), .ref ri, .ref rj, .int xin, .int xout, .int st, .int 0, .int gr, .int 0, .int (nI (2 ^ s.1 - 1)), .ref rg, .int (nI m), .int (x_mo_attackedBy (zAl s) s.1 (nI m)), .int (x_mo_attackersOf (zAl s) s.1 (nI m)), .int (nI s.1), q_u, q_u, q_u, q_u, q_u, q_u, q_u, q_u] [] _
      refine q_iload dL_law_712 rfl ?_
      refine q_iload dL_law_714 rfl ?_
      refine q_iload dL_law_716 rfl ?_
      refine q_iand dL_law_718 ?_
      refine q_if_ne 739 dL_law_719 (by decide) (fun b => ?_) (fun b => absurd b b9)
      refine q_iconst (v := 0) dL_law_739 rfl ?_
      refine q_iadd dL_law_740 ?_
      refine q_istore dL_law_741 (by decide) rfl ?_
      change q_W _ _ _ _ _ _ _ _ 743 [.ref 0, .ref 100, .int (nI t), .int (nI s.1), .int (nI na), .int (nI nb), .int (nI p), .int (nI u), .int a8, .int (nI a9), .ref ri, .ref rj, .int xin, .int xout, .int (st + 0), .int 0, .int gr, .int 0, .int (nI (2 ^ s.1 - 1)), .ref rg, .int (nI m), .int (x_mo_attackedBy (zAl s) s.1 (nI m)), .int (x_mo_attackersOf (zAl s) s.1 (nI m)), .int (nI s.1), q_u, q_u, q_u, q_u, q_u, q_u, q_u, q_u] [] _
      refine q_aload G1.r0 dL_law_743 rfl ?_
      refine q_iload dL_law_745 rfl ?_
      refine a_ldZ G2 dL_law_747 (by omega) (by omega) ?_
      refine q_if_eq 764 dL_law_748 (by decide) (fun b => ?_) (fun b => absurd (by rw [zGd_at (by omega), ha]; rfl) b)
      refine q_iload dL_law_764 rfl ?_
      refine q_istore dL_law_766 (by decide) rfl ?_
      change q_W _ _ _ _ _ _ _ _ 768 [.ref 0, .ref 100, .int (nI t), .int (nI s.1), .int (nI na), .int (nI nb), .int (nI p), .int (nI u), .int a8, .int (nI a9), .ref ri, .ref rj, .int xin, .int xout, .int (st + 0), .int 0, .int gr, .int 0, .int (nI (2 ^ s.1 - 1)), .ref rg, .int (nI m), .int (x_mo_attackedBy (zAl s) s.1 (nI m)), .int (x_mo_attackersOf (zAl s) s.1 (nI m)), .int (nI s.1), q_u, q_u, q_u, q_u, q_u, q_u, q_u, q_u] [] _
      refine q_forget 21 ?_
      refine q_forget 22 ?_
      refine q_forget 23 ?_
      change q_W _ _ _ _ _ _ _ _ 768 [.ref 0, .ref 100, .int (nI t), .int (nI s.1), .int (nI na), .int (nI nb), .int (nI p), .int (nI u), .int a8, .int (nI a9), .ref ri, .ref rj, .int xin, .int xout, .int (st + 0), .int 0, .int gr, .int 0, .int (nI (2 ^ s.1 - 1)), .ref rg, .int (nI m), q_u, q_u, q_u, q_u, q_u, q_u, q_u, q_u, q_u, q_u, q_u] [] _
      refine q_iinc (x := nI m) (v := nI (m + 1)) dL_law_768 rfl (nI_add _ 1) rfl ?_
      change q_W _ _ _ _ _ _ _ _ 771 [.ref 0, .ref 100, .int (nI t), .int (nI s.1), .int (nI na), .int (nI nb), .int (nI p), .int (nI u), .int a8, .int (nI a9), .ref ri, .ref rj, .int xin, .int xout, .int (st + 0), .int 0, .int gr, .int 0, .int (nI (2 ^ s.1 - 1)), .ref rg, .int (nI (m + 1)), q_u, q_u, q_u, q_u, q_u, q_u, q_u, q_u, q_u, q_u, q_u] [] _
      refine q_goto 606 dL_law_771 (by decide) ?_
      exact ih (m + 1) h1 _ _ _ _ (by omega) X1 A1 B1 G2 e1 e2
    · have hf := adm_f b
      have b9 := b
      rw [if_pos hf] at e1
      refine q_iload dL_law_696 rfl ?_
      refine q_iload dL_law_698 rfl ?_
      refine q_iconst (v := -1) dL_law_700 rfl ?_
      refine q_ixor dL_law_701 ?_
      refine q_iand dL_law_702 ?_
      refine q_if_ne 710 dL_law_703 (by decide) (fun b3 => ?_) (fun b3 => ?_)
      · have ha := adm_2 b9 b3
        rw [if_neg (by rw [ha]; exact Bool.false_ne_true)] at e2
        refine q_iconst (v := 0) dL_law_710 rfl ?_
        refine a_stZ X G (by decide) dL_law_711 (by omega) (by omega) (fun h1 X1 G1 o1 => ?_)
        have A1 := A.ow o1 (by omega)
        have B1 := Bf.ow o1 (by omega)
        have G2 := G1.eq (fun i _ => zGd_st (by rw [ha]; rfl) i)
        change q_W _ _ _ _ _ _ _ _ 712 [.ref 0, .ref 100, .int (nI t), .int (nI s.1), .int (nI na), .int (nI nb), .int (nI p), .int (nI u), .int a8, .int (nI a9), .ref ri, .ref rj, .int xin, .int xout, .int st, .int 0, .int gr, .int 0, .int (nI (2 ^ s.1 - 1)), .ref rg, .int (nI m), .int (x_mo_attackedBy (zAl s) s.1 (nI m)), .int (x_mo_attackersOf (zAl s) s.1 (nI m)), .int (nI s.1), q_u, q_u, q_u, q_u, q_u, q_u, q_u, q_u] [] _
        refine q_iload dL_law_712 rfl ?_
        refine q_iload dL_law_714 rfl ?_
        refine q_iload dL_law_716 rfl ?_
        refine q_iand dL_law_718 ?_
        refine q_if_ne 739 dL_law_719 (by decide) (fun b => absurd b9 b) (fun b => ?_)
        refine q_iload dL_law_722 rfl ?_
        refine q_iload dL_law_724 rfl ?_
        refine q_ior dL_law_726 ?_
        refine q_iconst (v := 1) dL_law_727 rfl ?_
        refine q_iload_n dL_law_728 rfl ?_
        refine q_shl1N (a := s.1) (by omega) dL_law_729 ?_
        refine q_iconst (v := 1) dL_law_730 rfl ?_
        refine q_isubN (a := 2 ^ s.1) (b := 1) (by omega) dL_law_731 ?_
        refine q_icmp_ne 739 dL_law_732 (by decide) (fun b4 => ?_) (fun b4 => ?_)
        · rw [if_neg (by rw [z_orC]; exact b4)] at e1
          refine q_iconst (v := 0) dL_law_739 rfl ?_
          refine q_iadd dL_law_740 ?_
          refine q_istore dL_law_741 (by decide) rfl ?_
          change q_W _ _ _ _ _ _ _ _ 743 [.ref 0, .ref 100, .int (nI t), .int (nI s.1), .int (nI na), .int (nI nb), .int (nI p), .int (nI u), .int a8, .int (nI a9), .ref ri, .ref rj, .int xin, .int xout, .int (st + 0), .int 0, .int gr, .int 0, .int (nI (2 ^ s.1 - 1)), .ref rg, .int (nI m), .int (x_mo_attackedBy (zAl s) s.1 (nI m)), .int (x_mo_attackersOf (zAl s) s.1 (nI m)), .int (nI s.1), q_u, q_u, q_u, q_u, q_u, q_u, q_u, q_u] [] _
          refine q_aload G1.r0 dL_law_743 rfl ?_
          refine q_iload dL_law_745 rfl ?_
          refine a_ldZ G2 dL_law_747 (by omega) (by omega) ?_
          refine q_if_eq 764 dL_law_748 (by decide) (fun b => ?_) (fun b => absurd (by rw [zGd_at (by omega), ha]; rfl) b)
          refine q_iload dL_law_764 rfl ?_
          refine q_istore dL_law_766 (by decide) rfl ?_
          change q_W _ _ _ _ _ _ _ _ 768 [.ref 0, .ref 100, .int (nI t), .int (nI s.1), .int (nI na), .int (nI nb), .int (nI p), .int (nI u), .int a8, .int (nI a9), .ref ri, .ref rj, .int xin, .int xout, .int (st + 0), .int 0, .int gr, .int 0, .int (nI (2 ^ s.1 - 1)), .ref rg, .int (nI m), .int (x_mo_attackedBy (zAl s) s.1 (nI m)), .int (x_mo_attackersOf (zAl s) s.1 (nI m)), .int (nI s.1), q_u, q_u, q_u, q_u, q_u, q_u, q_u, q_u] [] _
          refine q_forget 21 ?_
          refine q_forget 22 ?_
          refine q_forget 23 ?_
          change q_W _ _ _ _ _ _ _ _ 768 [.ref 0, .ref 100, .int (nI t), .int (nI s.1), .int (nI na), .int (nI nb), .int (nI p), .int (nI u), .int a8, .int (nI a9), .ref ri, .ref rj, .int xin, .int xout, .int (st + 0), .int 0, .int gr, .int 0, .int (nI (2 ^ s.1 - 1)), .ref rg, .int (nI m), q_u, q_u, q_u, q_u, q_u, q_u, q_u, q_u, q_u, q_u, q_u] [] _
          refine q_iinc (x := nI m) (v := nI (m + 1)) dL_law_768 rfl (nI_add _ 1) rfl ?_
          change q_W _ _ _ _ _ _ _ _ 771 [.ref 0, .ref 100, .int (nI t), .int (nI s.1), .int (nI na), .int (nI nb), .int (nI p), .int (nI u), .int a8, .int (nI a9), .ref ri, .ref rj, .int xin, .int xout, .int (st + 0), .int 0, .int gr, .int 0, .int (nI (2 ^ s.1 - 1)), .ref rg, .int (nI (m + 1)), q_u, q_u, q_u, q_u, q_u, q_u, q_u, q_u, q_u, q_u, q_u] [] _
          refine q_goto 606 dL_law_771 (by decide) ?_
          exact ih (m + 1) h1 _ _ _ _ (by omega) X1 A1 B1 G2 e1 e2
        · rw [if_pos (by rw [z_orC]; exact b4)] at e1
          refine q_iconst (v := 1) dL_law_735 rfl ?_
          refine q_goto 740 dL_law_736 (by decide) ?_
          refine q_iadd dL_law_740 ?_
          refine q_istore dL_law_741 (by decide) rfl ?_
          change q_W _ _ _ _ _ _ _ _ 743 [.ref 0, .ref 100, .int (nI t), .int (nI s.1), .int (nI na), .int (nI nb), .int (nI p), .int (nI u), .int a8, .int (nI a9), .ref ri, .ref rj, .int xin, .int xout, .int (st + 1), .int 0, .int gr, .int 0, .int (nI (2 ^ s.1 - 1)), .ref rg, .int (nI m), .int (x_mo_attackedBy (zAl s) s.1 (nI m)), .int (x_mo_attackersOf (zAl s) s.1 (nI m)), .int (nI s.1), q_u, q_u, q_u, q_u, q_u, q_u, q_u, q_u] [] _
          refine q_aload G1.r0 dL_law_743 rfl ?_
          refine q_iload dL_law_745 rfl ?_
          refine a_ldZ G2 dL_law_747 (by omega) (by omega) ?_
          refine q_if_eq 764 dL_law_748 (by decide) (fun b => ?_) (fun b => absurd (by rw [zGd_at (by omega), ha]; rfl) b)
          refine q_iload dL_law_764 rfl ?_
          refine q_istore dL_law_766 (by decide) rfl ?_
          change q_W _ _ _ _ _ _ _ _ 768 [.ref 0, .ref 100, .int (nI t), .int (nI s.1), .int (nI na), .int (nI nb), .int (nI p), .int (nI u), .int a8, .int (nI a9), .ref ri, .ref rj, .int xin, .int xout, .int (st + 1), .int 0, .int gr, .int 0, .int (nI (2 ^ s.1 - 1)), .ref rg, .int (nI m), .int (x_mo_attackedBy (zAl s) s.1 (nI m)), .int (x_mo_attackersOf (zAl s) s.1 (nI m)), .int (nI s.1), q_u, q_u, q_u, q_u, q_u, q_u, q_u, q_u] [] _
          refine q_forget 21 ?_
          refine q_forget 22 ?_
          refine q_forget 23 ?_
          change q_W _ _ _ _ _ _ _ _ 768 [.ref 0, .ref 100, .int (nI t), .int (nI s.1), .int (nI na), .int (nI nb), .int (nI p), .int (nI u), .int a8, .int (nI a9), .ref ri, .ref rj, .int xin, .int xout, .int (st + 1), .int 0, .int gr, .int 0, .int (nI (2 ^ s.1 - 1)), .ref rg, .int (nI m), q_u, q_u, q_u, q_u, q_u, q_u, q_u, q_u, q_u, q_u, q_u] [] _
          refine q_iinc (x := nI m) (v := nI (m + 1)) dL_law_768 rfl (nI_add _ 1) rfl ?_
          change q_W _ _ _ _ _ _ _ _ 771 [.ref 0, .ref 100, .int (nI t), .int (nI s.1), .int (nI na), .int (nI nb), .int (nI p), .int (nI u), .int a8, .int (nI a9), .ref ri, .ref rj, .int xin, .int xout, .int (st + 1), .int 0, .int gr, .int 0, .int (nI (2 ^ s.1 - 1)), .ref rg, .int (nI (m + 1)), q_u, q_u, q_u, q_u, q_u, q_u, q_u, q_u, q_u, q_u, q_u] [] _
          refine q_goto 606 dL_law_771 (by decide) ?_
          exact ih (m + 1) h1 _ _ _ _ (by omega) X1 A1 B1 G2 e1 e2
      · have ha := adm_3 b9 b3
        rw [if_pos ha] at e2
        refine q_iconst (v := 1) dL_law_706 rfl ?_
        refine q_goto 711 dL_law_707 (by decide) ?_
        refine a_stZ X G (by decide) dL_law_711 (by omega) (by omega) (fun h1 X1 G1 o1 => ?_)
        have A1 := A.ow o1 (by omega)
        have B1 := Bf.ow o1 (by omega)
        have G2 := G1.eq (fun i _ => zGd_st (by rw [ha]; rfl) i)
        change q_W _ _ _ _ _ _ _ _ 712 [.ref 0, .ref 100, .int (nI t), .int (nI s.1), .int (nI na), .int (nI nb), .int (nI p), .int (nI u), .int a8, .int (nI a9), .ref ri, .ref rj, .int xin, .int xout, .int st, .int 0, .int gr, .int 0, .int (nI (2 ^ s.1 - 1)), .ref rg, .int (nI m), .int (x_mo_attackedBy (zAl s) s.1 (nI m)), .int (x_mo_attackersOf (zAl s) s.1 (nI m)), .int (nI s.1), q_u, q_u, q_u, q_u, q_u, q_u, q_u, q_u] [] _
        refine q_iload dL_law_712 rfl ?_
        refine q_iload dL_law_714 rfl ?_
        refine q_iload dL_law_716 rfl ?_
        refine q_iand dL_law_718 ?_
        refine q_if_ne 739 dL_law_719 (by decide) (fun b => absurd b9 b) (fun b => ?_)
        refine q_iload dL_law_722 rfl ?_
        refine q_iload dL_law_724 rfl ?_
        refine q_ior dL_law_726 ?_
        refine q_iconst (v := 1) dL_law_727 rfl ?_
        refine q_iload_n dL_law_728 rfl ?_
        refine q_shl1N (a := s.1) (by omega) dL_law_729 ?_
        refine q_iconst (v := 1) dL_law_730 rfl ?_
        refine q_isubN (a := 2 ^ s.1) (b := 1) (by omega) dL_law_731 ?_
        refine q_icmp_ne 739 dL_law_732 (by decide) (fun b4 => ?_) (fun b4 => ?_)
        · rw [if_neg (by rw [z_orC]; exact b4)] at e1
          refine q_iconst (v := 0) dL_law_739 rfl ?_
          refine q_iadd dL_law_740 ?_
          refine q_istore dL_law_741 (by decide) rfl ?_
          change q_W _ _ _ _ _ _ _ _ 743 [.ref 0, .ref 100, .int (nI t), .int (nI s.1), .int (nI na), .int (nI nb), .int (nI p), .int (nI u), .int a8, .int (nI a9), .ref ri, .ref rj, .int xin, .int xout, .int (st + 0), .int 0, .int gr, .int 0, .int (nI (2 ^ s.1 - 1)), .ref rg, .int (nI m), .int (x_mo_attackedBy (zAl s) s.1 (nI m)), .int (x_mo_attackersOf (zAl s) s.1 (nI m)), .int (nI s.1), q_u, q_u, q_u, q_u, q_u, q_u, q_u, q_u] [] _
          refine q_aload G1.r0 dL_law_743 rfl ?_
          refine q_iload dL_law_745 rfl ?_
          refine a_ldZ G2 dL_law_747 (by omega) (by omega) ?_
          refine q_if_eq 764 dL_law_748 (by decide) (fun b => absurd b (by rw [zGd_at (by omega), ha]; decide)) (fun b => ?_)
          refine q_iload dL_law_751 rfl ?_
          refine q_iload dL_law_753 rfl ?_
          refine q_invS (mc' := 0) (ms' := 0) (d' := d - 1) (as := [.int (nI m)]) dL_law_755 kM_J6_bitCount_0f7a4 kL_L_209 kT_J6_bitCount_0f7a4 rfl rfl rfl (Nat.le_of_ble_eq_true rfl) (by omega) (by decide) (by omega) (by omega) (e_bitCount (d := d - 1)) (q_kR ?_) q_xR
          change q_W _ _ _ _ _ _ _ _ 758 [.ref 0, .ref 100, .int (nI t), .int (nI s.1), .int (nI na), .int (nI nb), .int (nI p), .int (nI u), .int a8, .int (nI a9), .ref ri, .ref rj, .int xin, .int xout, .int (st + 0), .int 0, .int gr, .int 0, .int (nI (2 ^ s.1 - 1)), .ref rg, .int (nI m), .int (x_mo_attackedBy (zAl s) s.1 (nI m)), .int (x_mo_attackersOf (zAl s) s.1 (nI m)), .int (nI s.1), q_u, q_u, q_u, q_u, q_u, q_u, q_u, q_u] [.int (z_bc (nI m)), .int gr] _
          refine q_mmax kL_L_157 kT_J9_max_7cf53 (kM_J9_max_7cf53.2.2.2.1) rfl dL_law_758 (Nat.le_of_ble_eq_true rfl) (by omega) (by omega) (by omega) ?_
          change q_W _ _ _ _ _ _ _ _ 761 [.ref 0, .ref 100, .int (nI t), .int (nI s.1), .int (nI na), .int (nI nb), .int (nI p), .int (nI u), .int a8, .int (nI a9), .ref ri, .ref rj, .int xin, .int xout, .int (st + 0), .int 0, .int gr, .int 0, .int (nI (2 ^ s.1 - 1)), .ref rg, .int (nI m), .int (x_mo_attackedBy (zAl s) s.1 (nI m)), .int (x_mo_attackersOf (zAl s) s.1 (nI m)), .int (nI s.1), q_u, q_u, q_u, q_u, q_u, q_u, q_u, q_u] [.int (if gr < z_bc (nI m) then z_bc (nI m) else gr)] _
          refine q_goto 766 dL_law_761 (by decide) ?_
          refine q_istore dL_law_766 (by decide) rfl ?_
          change q_W _ _ _ _ _ _ _ _ 768 [.ref 0, .ref 100, .int (nI t), .int (nI s.1), .int (nI na), .int (nI nb), .int (nI p), .int (nI u), .int a8, .int (nI a9), .ref ri, .ref rj, .int xin, .int xout, .int (st + 0), .int 0, .int (if gr < z_bc (nI m) then z_bc (nI m) else gr), .int 0, .int (nI (2 ^ s.1 - 1)), .ref rg, .int (nI m), .int (x_mo_attackedBy (zAl s) s.1 (nI m)), .int (x_mo_attackersOf (zAl s) s.1 (nI m)), .int (nI s.1), q_u, q_u, q_u, q_u, q_u, q_u, q_u, q_u] [] _
          refine q_forget 21 ?_
          refine q_forget 22 ?_
          refine q_forget 23 ?_
          change q_W _ _ _ _ _ _ _ _ 768 [.ref 0, .ref 100, .int (nI t), .int (nI s.1), .int (nI na), .int (nI nb), .int (nI p), .int (nI u), .int a8, .int (nI a9), .ref ri, .ref rj, .int xin, .int xout, .int (st + 0), .int 0, .int (if gr < z_bc (nI m) then z_bc (nI m) else gr), .int 0, .int (nI (2 ^ s.1 - 1)), .ref rg, .int (nI m), q_u, q_u, q_u, q_u, q_u, q_u, q_u, q_u, q_u, q_u, q_u] [] _
          refine q_iinc (x := nI m) (v := nI (m + 1)) dL_law_768 rfl (nI_add _ 1) rfl ?_
          change q_W _ _ _ _ _ _ _ _ 771 [.ref 0, .ref 100, .int (nI t), .int (nI s.1), .int (nI na), .int (nI nb), .int (nI p), .int (nI u), .int a8, .int (nI a9), .ref ri, .ref rj, .int xin, .int xout, .int (st + 0), .int 0, .int (if gr < z_bc (nI m) then z_bc (nI m) else gr), .int 0, .int (nI (2 ^ s.1 - 1)), .ref rg, .int (nI (m + 1)), q_u, q_u, q_u, q_u, q_u, q_u, q_u, q_u, q_u, q_u, q_u] [] _
          refine q_goto 606 dL_law_771 (by decide) ?_
          exact ih (m + 1) h1 _ _ _ _ (by omega) X1 A1 B1 G2 e1 e2
        · rw [if_pos (by rw [z_orC]; exact b4)] at e1
          refine q_iconst (v := 1) dL_law_735 rfl ?_
          refine q_goto 740 dL_law_736 (by decide) ?_
          refine q_iadd dL_law_740 ?_
          refine q_istore dL_law_741 (by decide) rfl ?_
          change q_W _ _ _ _ _ _ _ _ 743 [.ref 0, .ref 100, .int (nI t), .int (nI s.1), .int (nI na), .int (nI nb), .int (nI p), .int (nI u), .int a8, .int (nI a9), .ref ri, .ref rj, .int xin, .int xout, .int (st + 1), .int 0, .int gr, .int 0, .int (nI (2 ^ s.1 - 1)), .ref rg, .int (nI m), .int (x_mo_attackedBy (zAl s) s.1 (nI m)), .int (x_mo_attackersOf (zAl s) s.1 (nI m)), .int (nI s.1), q_u, q_u, q_u, q_u, q_u, q_u, q_u, q_u] [] _
          refine q_aload G1.r0 dL_law_743 rfl ?_
          refine q_iload dL_law_745 rfl ?_
          refine a_ldZ G2 dL_law_747 (by omega) (by omega) ?_
          refine q_if_eq 764 dL_law_748 (by decide) (fun b => absurd b (by rw [zGd_at (by omega), ha]; decide)) (fun b => ?_)
          refine q_iload dL_law_751 rfl ?_
          refine q_iload dL_law_753 rfl ?_
          refine q_invS (mc' := 0) (ms' := 0) (d' := d - 1) (as := [.int (nI m)]) dL_law_755 kM_J6_bitCount_0f7a4 kL_L_209 kT_J6_bitCount_0f7a4 rfl rfl rfl (Nat.le_of_ble_eq_true rfl) (by omega) (by decide) (by omega) (by omega) (e_bitCount (d := d - 1)) (q_kR ?_) q_xR
          change q_W _ _ _ _ _ _ _ _ 758 [.ref 0, .ref 100, .int (nI t), .int (nI s.1), .int (nI na), .int (nI nb), .int (nI p), .int (nI u), .int a8, .int (nI a9), .ref ri, .ref rj, .int xin, .int xout, .int (st + 1), .int 0, .int gr, .int 0, .int (nI (2 ^ s.1 - 1)), .ref rg, .int (nI m), .int (x_mo_attackedBy (zAl s) s.1 (nI m)), .int (x_mo_attackersOf (zAl s) s.1 (nI m)), .int (nI s.1), q_u, q_u, q_u, q_u, q_u, q_u, q_u, q_u] [.int (z_bc (nI m)), .int gr] _
          refine q_mmax kL_L_157 kT_J9_max_7cf53 (kM_J9_max_7cf53.2.2.2.1) rfl dL_law_758 (Nat.le_of_ble_eq_true rfl) (by omega) (by omega) (by omega) ?_
          change q_W _ _ _ _ _ _ _ _ 761 [.ref 0, .ref 100, .int (nI t), .int (nI s.1), .int (nI na), .int (nI nb), .int (nI p), .int (nI u), .int a8, .int (nI a9), .ref ri, .ref rj, .int xin, .int xout, .int (st + 1), .int 0, .int gr, .int 0, .int (nI (2 ^ s.1 - 1)), .ref rg, .int (nI m), .int (x_mo_attackedBy (zAl s) s.1 (nI m)), .int (x_mo_attackersOf (zAl s) s.1 (nI m)), .int (nI s.1), q_u, q_u, q_u, q_u, q_u, q_u, q_u, q_u] [.int (if gr < z_bc (nI m) then z_bc (nI m) else gr)] _
          refine q_goto 766 dL_law_761 (by decide) ?_
          refine q_istore dL_law_766 (by decide) rfl ?_
          change q_W _ _ _ _ _ _ _ _ 768 [.ref 0, .ref 100, .int (nI t), .int (nI s.1), .int (nI na), .int (nI nb), .int (nI p), .int (nI u), .int a8, .int (nI a9), .ref ri, .ref rj, .int xin, .int xout, .int (st + 1), .int 0, .int (if gr < z_bc (nI m) then z_bc (nI m) else gr), .int 0, .int (nI (2 ^ s.1 - 1)), .ref rg, .int (nI m), .int (x_mo_attackedBy (zAl s) s.1 (nI m)), .int (x_mo_attackersOf (zAl s) s.1 (nI m)), .int (nI s.1), q_u, q_u, q_u, q_u, q_u, q_u, q_u, q_u] [] _
          refine q_forget 21 ?_
          refine q_forget 22 ?_
          refine q_forget 23 ?_
          change q_W _ _ _ _ _ _ _ _ 768 [.ref 0, .ref 100, .int (nI t), .int (nI s.1), .int (nI na), .int (nI nb), .int (nI p), .int (nI u), .int a8, .int (nI a9), .ref ri, .ref rj, .int xin, .int xout, .int (st + 1), .int 0, .int (if gr < z_bc (nI m) then z_bc (nI m) else gr), .int 0, .int (nI (2 ^ s.1 - 1)), .ref rg, .int (nI m), q_u, q_u, q_u, q_u, q_u, q_u, q_u, q_u, q_u, q_u, q_u] [] _
          refine q_iinc (x := nI m) (v := nI (m + 1)) dL_law_768 rfl (nI_add _ 1) rfl ?_
          change q_W _ _ _ _ _ _ _ _ 771 [.ref 0, .ref 100, .int (nI t), .int (nI s.1), .int (nI na), .int (nI nb), .int (nI p), .int (nI u), .int a8, .int (nI a9), .ref ri, .ref rj, .int xin, .int xout, .int (st + 1), .int 0, .int (if gr < z_bc (nI m) then z_bc (nI m) else gr), .int 0, .int (nI (2 ^ s.1 - 1)), .ref rg, .int (nI (m + 1)), q_u, q_u, q_u, q_u, q_u, q_u, q_u, q_u, q_u, q_u, q_u] [] _
          refine q_goto 606 dL_law_771 (by decide) ?_
          exact ih (m + 1) h1 _ _ _ _ (by omega) X1 A1 B1 G2 e1 e2
theorem g_pfI {m : Nat} {b : Bool} (hb : b = true ↔ zD s m = true ∧ ∀ x, m < x → x < 2 ^ s.1 → x &&& m = m → zD s x = false) : b = true ↔ z_prf (zD s) s.1 m := by
  rw [hb]
  constructor
  · rintro ⟨h1, h2⟩
    refine ⟨h1, ?_⟩
    rintro ⟨x, x1, x2, x3, x4⟩
    have hle : m ≤ x := by
      have := Nat.and_le_left (n := x) (m := m)
      omega
    rw [h2 x (by omega) x1 x2] at x4
    cases x4
  · rintro ⟨h1, h2⟩
    refine ⟨h1, fun x x1 x2 x3 => ?_⟩
    cases e : zD s x with
    | false => rfl
    | true => exact absurd ⟨x, x2, x3, by omega, e⟩ h2
set_option maxRecDepth 100000 in
set_option maxHeartbeats 8000000 in
theorem l_prf1 {t na nb a9 p u ri rj rg : Nat} {a8 xin xout : Int32} {m kc ks m1 m2 pv : Nat} {st gr cd ct tg : Int32} {h : q_H} (V : z_V B s) (hm : m < 2 ^ s.1) (G : z_arr 1 h rg (2 ^ s.1) (zGd s (2 ^ s.1)))
    (K : ∀ b0 mo, (b0 = true ↔ z_prf (zD s) s.1 m) → q_W g mL_law d mc ms Q kc ks 867 [.ref 0, .ref 100, .int (nI t), .int (nI s.1), .int (nI na), .int (nI nb), .int (nI p), .int (nI u), .int a8, .int (nI a9), .ref ri, .ref rj, .int xin, .int xout, .int st, .int (nI pv), .int gr, .int cd, .int ct, .ref rg, .int (nI m1), .int (nI m2), .int tg, .int (nI m), .int (z_b b0), .int (nI mo), q_u, q_u, q_u, q_u, q_u, q_u] [] h) :
    ∀ r mo b0, mo + r = 2 ^ s.1 → m < mo → (b0 = true ↔ zD s m = true ∧ ∀ x, m < x → x < mo → x &&& m = m → zD s x = false) → q_W g mL_law d mc ms Q kc ks 823 [.ref 0, .ref 100, .int (nI t), .int (nI s.1), .int (nI na), .int (nI nb), .int (nI p), .int (nI u), .int a8, .int (nI a9), .ref ri, .ref rj, .int xin, .int xout, .int st, .int (nI pv), .int gr, .int cd, .int ct, .ref rg, .int (nI m1), .int (nI m2), .int tg, .int (nI m), .int (z_b b0), .int (nI mo), q_u, q_u, q_u, q_u, q_u, q_u] [] h := by
  have h8 := V.1.1
  have hp8 : 2 ^ s.1 ≤ 256 := Nat.pow_le_pow_right (n := 2) (by omega) h8
  intro r
  induction r with
  | zero =>
    intro mo b0 hr hmo hb
    have e : mo = 2 ^ s.1 := by omega
    subst e
    refine q_iload dL_law_823 rfl ?_
    refine q_iconst (v := 1) dL_law_825 rfl ?_
    refine q_iload_n dL_law_826 rfl ?_
    refine q_shl1N (a := s.1) (by omega) dL_law_827 ?_
    refine q_icmp_ge 867 dL_law_828 (by decide) (fun b => ?_) (fun b => absurd ((nI_leI (by omega) (by omega)).mpr (by omega)) b)
    exact K b0 _ (g_pfI hb)
  | succ r ih =>
    intro mo b0 hr hmo hb
    refine q_iload dL_law_823 rfl ?_
    refine q_iconst (v := 1) dL_law_825 rfl ?_
    refine q_iload_n dL_law_826 rfl ?_
    refine q_shl1N (a := s.1) (by omega) dL_law_827 ?_
    refine q_icmp_ge 867 dL_law_828 (by decide) (fun b => absurd ((nI_leI (by omega) (by omega)).mp b) (by omega)) (fun b => ?_)
    refine q_iload dL_law_831 rfl ?_
    refine q_if_eq 867 dL_law_833 (by decide) (fun b => ?_) (fun b => ?_)
    · refine K b0 mo ?_
      have hb0 := z_b0n b
      constructor
      · exact fun c => absurd c hb0
      · rintro ⟨q1, q2⟩
        refine absurd (hb.mpr ⟨q1, fun x x1 x2 x3 => ?_⟩) hb0
        cases e : zD s x with
        | false => rfl
        | true => exact absurd ⟨x, by omega, x3, by omega, e⟩ q2
    · have hb1 := hb.mp (z_b1 b)
      refine q_iload dL_law_836 rfl ?_
      refine q_iload dL_law_838 rfl ?_
      refine q_iand dL_law_840 ?_
      refine q_iload dL_law_841 rfl ?_
      refine q_icmp_ne 854 dL_law_843 (by decide) (fun b2 => ?_) (fun b2 => ?_)
      · have hs : ¬ mo &&& m = m := fun c => b2 ((z_supI (by omega) (by omega)).mpr c)
        have hn : (true : Bool) = true ↔ zD s m = true ∧ ∀ x, m < x → x < mo + 1 → x &&& m = m → zD s x = false := by
          refine ⟨fun _ => ⟨hb1.1, fun x x1 x2 x3 => ?_⟩, fun _ => rfl⟩
          by_cases q : x = mo
          · subst q
            exact absurd x3 hs
          · exact hb1.2 x x1 (by omega) x3
        refine q_iconst (v := 1) dL_law_854 rfl ?_
        refine q_goto 859 dL_law_855 (by decide) ?_
        refine q_istore dL_law_859 (by decide) rfl ?_
        change q_W _ _ _ _ _ _ _ _ 861 [.ref 0, .ref 100, .int (nI t), .int (nI s.1), .int (nI na), .int (nI nb), .int (nI p), .int (nI u), .int a8, .int (nI a9), .ref ri, .ref rj, .int xin, .int xout, .int st, .int (nI pv), .int gr, .int cd, .int ct, .ref rg, .int (nI m1), .int (nI m2), .int tg, .int (nI m), .int 1, .int (nI mo), q_u, q_u, q_u, q_u, q_u, q_u] [] _
        refine q_iinc (x := nI mo) (v := nI (mo + 1)) dL_law_861 rfl (nI_add _ 1) rfl ?_
        change q_W _ _ _ _ _ _ _ _ 864 [.ref 0, .ref 100, .int (nI t), .int (nI s.1), .int (nI na), .int (nI nb), .int (nI p), .int (nI u), .int a8, .int (nI a9), .ref ri, .ref rj, .int xin, .int xout, .int st, .int (nI pv), .int gr, .int cd, .int ct, .ref rg, .int (nI m1), .int (nI m2), .int tg, .int (nI m), .int 1, .int (nI (mo + 1)), q_u, q_u, q_u, q_u, q_u, q_u] [] _
        refine q_goto 823 dL_law_864 (by decide) ?_
        exact ih (mo + 1) true (by omega) (by omega) hn
      · have hs : mo &&& m = m := (z_supI (by omega) (by omega)).mp b2
        refine q_aload G.r0 dL_law_846 rfl ?_
        refine q_iload dL_law_848 rfl ?_
        refine a_ldZ G dL_law_850 (by omega) (by omega) ?_
        rw [zGd_at (by omega)]
        refine q_if_ne 858 dL_law_851 (by decide) (fun b3 => ?_) (fun b3 => ?_)
        · have hg := z_b1 b3
          have hn : (false : Bool) = true ↔ zD s m = true ∧ ∀ x, m < x → x < mo + 1 → x &&& m = m → zD s x = false := by
            refine ⟨fun c => absurd c Bool.false_ne_true, fun c => ?_⟩
            rw [c.2 mo hmo (by omega) hs] at hg
            cases hg
          refine q_iconst (v := 0) dL_law_858 rfl ?_
          refine q_istore dL_law_859 (by decide) rfl ?_
          change q_W _ _ _ _ _ _ _ _ 861 [.ref 0, .ref 100, .int (nI t), .int (nI s.1), .int (nI na), .int (nI nb), .int (nI p), .int (nI u), .int a8, .int (nI a9), .ref ri, .ref rj, .int xin, .int xout, .int st, .int (nI pv), .int gr, .int cd, .int ct, .ref rg, .int (nI m1), .int (nI m2), .int tg, .int (nI m), .int 0, .int (nI mo), q_u, q_u, q_u, q_u, q_u, q_u] [] _
          refine q_iinc (x := nI mo) (v := nI (mo + 1)) dL_law_861 rfl (nI_add _ 1) rfl ?_
          change q_W _ _ _ _ _ _ _ _ 864 [.ref 0, .ref 100, .int (nI t), .int (nI s.1), .int (nI na), .int (nI nb), .int (nI p), .int (nI u), .int a8, .int (nI a9), .ref ri, .ref rj, .int xin, .int xout, .int st, .int (nI pv), .int gr, .int cd, .int ct, .ref rg, .int (nI m1), .int (nI m2), .int tg, .int (nI m), .int 0, .int (nI (mo + 1)), q_u, q_u, q_u, q_u, q_u, q_u] [] _
          refine q_goto 823 dL_law_864 (by decide) ?_
          exact ih (mo + 1) false (by omega) (by omega) hn
        · have hg : zD s mo = false := by simpa using z_b0n b3
          have hn : (true : Bool) = true ↔ zD s m = true ∧ ∀ x, m < x → x < mo + 1 → x &&& m = m → zD s x = false := by
            refine ⟨fun _ => ⟨hb1.1, fun x x1 x2 x3 => ?_⟩, fun _ => rfl⟩
            by_cases q : x = mo
            · subst q
              exact hg
            · exact hb1.2 x x1 (by omega) x3
          refine q_iconst (v := 1) dL_law_854 rfl ?_
          refine q_goto 859 dL_law_855 (by decide) ?_
          refine q_istore dL_law_859 (by decide) rfl ?_
          change q_W _ _ _ _ _ _ _ _ 861 [.ref 0, .ref 100, .int (nI t), .int (nI s.1), .int (nI na), .int (nI nb), .int (nI p), .int (nI u), .int a8, .int (nI a9), .ref ri, .ref rj, .int xin, .int xout, .int st, .int (nI pv), .int gr, .int cd, .int ct, .ref rg, .int (nI m1), .int (nI m2), .int tg, .int (nI m), .int 1, .int (nI mo), q_u, q_u, q_u, q_u, q_u, q_u] [] _
          refine q_iinc (x := nI mo) (v := nI (mo + 1)) dL_law_861 rfl (nI_add _ 1) rfl ?_
          change q_W _ _ _ _ _ _ _ _ 864 [.ref 0, .ref 100, .int (nI t), .int (nI s.1), .int (nI na), .int (nI nb), .int (nI p), .int (nI u), .int a8, .int (nI a9), .ref ri, .ref rj, .int xin, .int xout, .int st, .int (nI pv), .int gr, .int cd, .int ct, .ref rg, .int (nI m1), .int (nI m2), .int tg, .int (nI m), .int 1, .int (nI (mo + 1)), q_u, q_u, q_u, q_u, q_u, q_u] [] _
          refine q_goto 823 dL_law_864 (by decide) ?_
          exact ih (mo + 1) true (by omega) (by omega) hn
set_option maxRecDepth 100000 in
set_option maxHeartbeats 8000000 in
theorem l_prfs {t na nb a9 p u ri rj rg : Nat} {a8 xin xout : Int32} {kc ks m1 m2 : Nat} {st gr : Int32} {h : q_H} (V : z_V B s) (hm1 : m1 < s.1) (hm2 : m2 < s.1) (G : z_arr 1 h rg (2 ^ s.1) (zGd s (2 ^ s.1)))
    (K : q_W g mL_law d mc ms Q kc ks 930 [.ref 0, .ref 100, .int (nI t), .int (nI s.1), .int (nI na), .int (nI nb), .int (nI p), .int (nI u), .int a8, .int (nI a9), .ref ri, .ref rj, .int xin, .int xout, .int st, .int (nI (z_cnt (zPb s) (2 ^ s.1))), .int gr, .int (zCd s (2 ^ s.1)), .int (zCt s (2 ^ s.1)), .ref rg, .int (nI m1), .int (nI m2), .int (z_b (zTg s m1 m2 (2 ^ s.1))), q_u, q_u, q_u, q_u, q_u, q_u, q_u, q_u, q_u] [] h) :
    ∀ r m pv cd ct tg, m + r = 2 ^ s.1 → pv = z_cnt (zPb s) m → cd = zCd s m → ct = zCt s m → tg = z_b (zTg s m1 m2 m) → q_W g mL_law d mc ms Q kc ks 802 [.ref 0, .ref 100, .int (nI t), .int (nI s.1), .int (nI na), .int (nI nb), .int (nI p), .int (nI u), .int a8, .int (nI a9), .ref ri, .ref rj, .int xin, .int xout, .int st, .int (nI pv), .int gr, .int cd, .int ct, .ref rg, .int (nI m1), .int (nI m2), .int tg, .int (nI m), q_u, q_u, q_u, q_u, q_u, q_u, q_u, q_u] [] h := by
  have h8 := V.1.1
  have hp8 : 2 ^ s.1 ≤ 256 := Nat.pow_le_pow_right (n := 2) (by omega) h8
  intro r
  induction r with
  | zero =>
    intro m pv cd ct tg hr e1 e2 e3 e4
    have e : m = 2 ^ s.1 := by omega
    subst e1 e2 e3 e4 e
    refine q_iload dL_law_802 rfl ?_
    refine q_iconst (v := 1) dL_law_804 rfl ?_
    refine q_iload_n dL_law_805 rfl ?_
    refine q_shl1N (a := s.1) (by omega) dL_law_806 ?_
    refine q_icmp_ge 930 dL_law_807 (by decide) (fun b => ?_) (fun b => absurd ((nI_leI (by omega) (by omega)).mpr (by omega)) b)
    refine q_forget 23 ?_
    change q_W _ _ _ _ _ _ _ _ 930 [.ref 0, .ref 100, .int (nI t), .int (nI s.1), .int (nI na), .int (nI nb), .int (nI p), .int (nI u), .int a8, .int (nI a9), .ref ri, .ref rj, .int xin, .int xout, .int st, .int (nI (z_cnt (zPb s) (2 ^ s.1))), .int gr, .int (zCd s (2 ^ s.1)), .int (zCt s (2 ^ s.1)), .ref rg, .int (nI m1), .int (nI m2), .int (z_b (zTg s m1 m2 (2 ^ s.1))), q_u, q_u, q_u, q_u, q_u, q_u, q_u, q_u, q_u] [] _
    exact K
  | succ r ih =>
    intro m pv cd ct tg hr e1 e2 e3 e4
    have hm : m < 2 ^ s.1 := by omega
    have hpb := g_pb V hm
    have hc1 : z_cnt (zPb s) (m + 1) = z_cnt (zPb s) m + (if zPb s m then 1 else 0) := rfl
    have hc2 : zCd s (m + 1) = if zPb s m = true then zCd s m ||| nI m else zCd s m := rfl
    have hc3 : zCt s (m + 1) = if zPb s m = true then zCt s m &&& nI m else zCt s m := rfl
    have hc4 : zTg s m1 m2 (m + 1) = if zPb s m = true then (zTg s m1 m2 m || (z_bi (nI m) m1 && z_bi (nI m) m2)) else zTg s m1 m2 m := rfl
    refine q_iload dL_law_802 rfl ?_
    refine q_iconst (v := 1) dL_law_804 rfl ?_
    refine q_iload_n dL_law_805 rfl ?_
    refine q_shl1N (a := s.1) (by omega) dL_law_806 ?_
    refine q_icmp_ge 930 dL_law_807 (by decide) (fun b => absurd ((nI_leI (by omega) (by omega)).mp b) (by omega)) (fun b => ?_)
    refine q_aload G.r0 dL_law_810 rfl ?_
    refine q_iload dL_law_812 rfl ?_
    refine a_ldZ G dL_law_814 (by omega) (by omega) ?_
    rw [zGd_at hm]
    refine q_istore dL_law_815 (by decide) rfl ?_
    change q_W _ _ _ _ _ _ _ _ 817 [.ref 0, .ref 100, .int (nI t), .int (nI s.1), .int (nI na), .int (nI nb), .int (nI p), .int (nI u), .int a8, .int (nI a9), .ref ri, .ref rj, .int xin, .int xout, .int st, .int (nI pv), .int gr, .int cd, .int ct, .ref rg, .int (nI m1), .int (nI m2), .int tg, .int (nI m), .int (z_b (zD s m)), q_u, q_u, q_u, q_u, q_u, q_u, q_u] [] _
    refine q_iload dL_law_817 rfl ?_
    refine q_iconst (v := 1) dL_law_819 rfl ?_
    refine q_iaddN (a := m) (b := 1) dL_law_820 ?_
    refine q_istore dL_law_821 (by decide) rfl ?_
    change q_W _ _ _ _ _ _ _ _ 823 [.ref 0, .ref 100, .int (nI t), .int (nI s.1), .int (nI na), .int (nI nb), .int (nI p), .int (nI u), .int a8, .int (nI a9), .ref ri, .ref rj, .int xin, .int xout, .int st, .int (nI pv), .int gr, .int cd, .int ct, .ref rg, .int (nI m1), .int (nI m2), .int tg, .int (nI m), .int (z_b (zD s m)), .int (nI (m + 1)), q_u, q_u, q_u, q_u, q_u, q_u] [] _
    refine l_prf1 V hm G (fun b0 mo hb => ?_) r (m + 1) (zD s m) (by omega) (by omega) ⟨fun c => ⟨c, fun x x1 x2 => absurd x2 (by omega)⟩, fun c => c.1⟩
    refine q_iload dL_law_867 rfl ?_
    refine q_if_ne 875 dL_law_869 (by decide) (fun b => ?_) (fun b => ?_)
    · have hp : zPb s m = true := hpb.mpr (hb.mp (z_b1 b))
      rw [if_pos hp] at hc1 hc2 hc3 hc4
      refine q_iinc (x := nI pv) (v := nI (pv + 1)) dL_law_875 rfl (nI_add _ 1) rfl ?_
      change q_W _ _ _ _ _ _ _ _ 878 [.ref 0, .ref 100, .int (nI t), .int (nI s.1), .int (nI na), .int (nI nb), .int (nI p), .int (nI u), .int a8, .int (nI a9), .ref ri, .ref rj, .int xin, .int xout, .int st, .int (nI (pv + 1)), .int gr, .int cd, .int ct, .ref rg, .int (nI m1), .int (nI m2), .int tg, .int (nI m), .int (z_b b0), .int (nI mo), q_u, q_u, q_u, q_u, q_u, q_u] [] _
      refine q_iload dL_law_878 rfl ?_
      refine q_iload dL_law_880 rfl ?_
      refine q_ior dL_law_882 ?_
      refine q_istore dL_law_883 (by decide) rfl ?_
      change q_W _ _ _ _ _ _ _ _ 885 [.ref 0, .ref 100, .int (nI t), .int (nI s.1), .int (nI na), .int (nI nb), .int (nI p), .int (nI u), .int a8, .int (nI a9), .ref ri, .ref rj, .int xin, .int xout, .int st, .int (nI (pv + 1)), .int gr, .int (cd ||| ((nI m))), .int ct, .ref rg, .int (nI m1), .int (nI m2), .int tg, .int (nI m), .int (z_b b0), .int (nI mo), q_u, q_u, q_u, q_u, q_u, q_u] [] _
      refine q_iload dL_law_885 rfl ?_
      refine q_iload dL_law_887 rfl ?_
      refine q_iand dL_law_889 ?_
      refine q_istore dL_law_890 (by decide) rfl ?_
      change q_W _ _ _ _ _ _ _ _ 892 [.ref 0, .ref 100, .int (nI t), .int (nI s.1), .int (nI na), .int (nI nb), .int (nI p), .int (nI u), .int a8, .int (nI a9), .ref ri, .ref rj, .int xin, .int xout, .int st, .int (nI (pv + 1)), .int gr, .int (cd ||| ((nI m))), .int (ct &&& ((nI m))), .ref rg, .int (nI m1), .int (nI m2), .int tg, .int (nI m), .int (z_b b0), .int (nI mo), q_u, q_u, q_u, q_u, q_u, q_u] [] _
      refine q_iload dL_law_892 rfl ?_
      refine q_iload dL_law_894 rfl ?_
      refine q_iload dL_law_896 rfl ?_
      refine q_ishr dL_law_898 ?_
      refine q_iconst (v := 1) dL_law_899 rfl ?_
      refine q_iand dL_law_900 ?_
      refine q_iconst (v := 1) dL_law_901 rfl ?_
      refine q_icmp_ne 920 dL_law_902 (by decide) (fun b2 => ?_) (fun b2 => ?_)
      · have q1 : z_bi (nI m) m1 = false := by
            cases q : z_bi (nI m) m1 with
            | false => rfl
            | true => exact absurd ((z_bit1 _ (by omega)).mpr q) b2
        refine q_iconst (v := 0) dL_law_920 rfl ?_
        refine q_ior dL_law_921 ?_
        refine q_istore dL_law_922 (by decide) rfl ?_
        change q_W _ _ _ _ _ _ _ _ 924 [.ref 0, .ref 100, .int (nI t), .int (nI s.1), .int (nI na), .int (nI nb), .int (nI p), .int (nI u), .int a8, .int (nI a9), .ref ri, .ref rj, .int xin, .int xout, .int st, .int (nI (pv + 1)), .int gr, .int (cd ||| ((nI m))), .int (ct &&& ((nI m))), .ref rg, .int (nI m1), .int (nI m2), .int (tg ||| 0), .int (nI m), .int (z_b b0), .int (nI mo), q_u, q_u, q_u, q_u, q_u, q_u] [] _
        refine q_forget 24 ?_
        refine q_forget 25 ?_
        change q_W _ _ _ _ _ _ _ _ 924 [.ref 0, .ref 100, .int (nI t), .int (nI s.1), .int (nI na), .int (nI nb), .int (nI p), .int (nI u), .int a8, .int (nI a9), .ref ri, .ref rj, .int xin, .int xout, .int st, .int (nI (pv + 1)), .int gr, .int (cd ||| ((nI m))), .int (ct &&& ((nI m))), .ref rg, .int (nI m1), .int (nI m2), .int (tg ||| 0), .int (nI m), q_u, q_u, q_u, q_u, q_u, q_u, q_u, q_u] [] _
        refine q_iinc (x := nI m) (v := nI (m + 1)) dL_law_924 rfl (nI_add _ 1) rfl ?_
        change q_W _ _ _ _ _ _ _ _ 927 [.ref 0, .ref 100, .int (nI t), .int (nI s.1), .int (nI na), .int (nI nb), .int (nI p), .int (nI u), .int a8, .int (nI a9), .ref ri, .ref rj, .int xin, .int xout, .int st, .int (nI (pv + 1)), .int gr, .int (cd ||| ((nI m))), .int (ct &&& ((nI m))), .ref rg, .int (nI m1), .int (nI m2), .int (tg ||| 0), .int (nI (m + 1)), q_u, q_u, q_u, q_u, q_u, q_u, q_u, q_u] [] _
        refine q_goto 802 dL_law_927 (by decide) ?_
        exact ih (m + 1) _ _ _ _ (by omega) (by rw [hc1, e1]) (by rw [hc2, e2]) (by rw [hc3, e3]) (by rw [hc4, e4, q1, Bool.false_and, Bool.or_false, z_orZ])
      · have q1 : z_bi (nI m) m1 = true := (z_bit1 _ (by omega)).mp b2
        refine q_iload dL_law_905 rfl ?_
        refine q_iload dL_law_907 rfl ?_
        refine q_ishr dL_law_909 ?_
        refine q_iconst (v := 1) dL_law_910 rfl ?_
        refine q_iand dL_law_911 ?_
        refine q_iconst (v := 1) dL_law_912 rfl ?_
        refine q_icmp_ne 920 dL_law_913 (by decide) (fun b3 => ?_) (fun b3 => ?_)
        · have q2 : z_bi (nI m) m2 = false := by
              cases q : z_bi (nI m) m2 with
              | false => rfl
              | true => exact absurd ((z_bit1 _ (by omega)).mpr q) b3
          refine q_iconst (v := 0) dL_law_920 rfl ?_
          refine q_ior dL_law_921 ?_
          refine q_istore dL_law_922 (by decide) rfl ?_
          change q_W _ _ _ _ _ _ _ _ 924 [.ref 0, .ref 100, .int (nI t), .int (nI s.1), .int (nI na), .int (nI nb), .int (nI p), .int (nI u), .int a8, .int (nI a9), .ref ri, .ref rj, .int xin, .int xout, .int st, .int (nI (pv + 1)), .int gr, .int (cd ||| ((nI m))), .int (ct &&& ((nI m))), .ref rg, .int (nI m1), .int (nI m2), .int (tg ||| 0), .int (nI m), .int (z_b b0), .int (nI mo), q_u, q_u, q_u, q_u, q_u, q_u] [] _
          refine q_forget 24 ?_
          refine q_forget 25 ?_
          change q_W _ _ _ _ _ _ _ _ 924 [.ref 0, .ref 100, .int (nI t), .int (nI s.1), .int (nI na), .int (nI nb), .int (nI p), .int (nI u), .int a8, .int (nI a9), .ref ri, .ref rj, .int xin, .int xout, .int st, .int (nI (pv + 1)), .int gr, .int (cd ||| ((nI m))), .int (ct &&& ((nI m))), .ref rg, .int (nI m1), .int (nI m2), .int (tg ||| 0), .int (nI m), q_u, q_u, q_u, q_u, q_u, q_u, q_u, q_u] [] _
          refine q_iinc (x := nI m) (v := nI (m + 1)) dL_law_924 rfl (nI_add _ 1) rfl ?_
          change q_W _ _ _ _ _ _ _ _ 927 [.ref 0, .ref 100, .int (nI t), .int (nI s.1), .int (nI na), .int (nI nb), .int (nI p), .int (nI u), .int a8, .int (nI a9), .ref ri, .ref rj, .int xin, .int xout, .int st, .int (nI (pv + 1)), .int gr, .int (cd ||| ((nI m))), .int (ct &&& ((nI m))), .ref rg, .int (nI m1), .int (nI m2), .int (tg ||| 0), .int (nI (m + 1)), q_u, q_u, q_u, q_u, q_u, q_u, q_u, q_u] [] _
          refine q_goto 802 dL_law_927 (by decide) ?_
          exact ih (m + 1) _ _ _ _ (by omega) (by rw [hc1, e1]) (by rw [hc2, e2]) (by rw [hc3, e3]) (by rw [hc4, e4, q1, q2, Bool.and_false, Bool.or_false, z_orZ])
        · have q2 : z_bi (nI m) m2 = true := (z_bit1 _ (by omega)).mp b3
          refine q_iconst (v := 1) dL_law_916 rfl ?_
          refine q_goto 921 dL_law_917 (by decide) ?_
          refine q_ior dL_law_921 ?_
          refine q_istore dL_law_922 (by decide) rfl ?_
          change q_W _ _ _ _ _ _ _ _ 924 [.ref 0, .ref 100, .int (nI t), .int (nI s.1), .int (nI na), .int (nI nb), .int (nI p), .int (nI u), .int a8, .int (nI a9), .ref ri, .ref rj, .int xin, .int xout, .int st, .int (nI (pv + 1)), .int gr, .int (cd ||| ((nI m))), .int (ct &&& ((nI m))), .ref rg, .int (nI m1), .int (nI m2), .int (tg ||| 1), .int (nI m), .int (z_b b0), .int (nI mo), q_u, q_u, q_u, q_u, q_u, q_u] [] _
          refine q_forget 24 ?_
          refine q_forget 25 ?_
          change q_W _ _ _ _ _ _ _ _ 924 [.ref 0, .ref 100, .int (nI t), .int (nI s.1), .int (nI na), .int (nI nb), .int (nI p), .int (nI u), .int a8, .int (nI a9), .ref ri, .ref rj, .int xin, .int xout, .int st, .int (nI (pv + 1)), .int gr, .int (cd ||| ((nI m))), .int (ct &&& ((nI m))), .ref rg, .int (nI m1), .int (nI m2), .int (tg ||| 1), .int (nI m), q_u, q_u, q_u, q_u, q_u, q_u, q_u, q_u] [] _
          refine q_iinc (x := nI m) (v := nI (m + 1)) dL_law_924 rfl (nI_add _ 1) rfl ?_
          change q_W _ _ _ _ _ _ _ _ 927 [.ref 0, .ref 100, .int (nI t), .int (nI s.1), .int (nI na), .int (nI nb), .int (nI p), .int (nI u), .int a8, .int (nI a9), .ref ri, .ref rj, .int xin, .int xout, .int st, .int (nI (pv + 1)), .int gr, .int (cd ||| ((nI m))), .int (ct &&& ((nI m))), .ref rg, .int (nI m1), .int (nI m2), .int (tg ||| 1), .int (nI (m + 1)), q_u, q_u, q_u, q_u, q_u, q_u, q_u, q_u] [] _
          refine q_goto 802 dL_law_927 (by decide) ?_
          exact ih (m + 1) _ _ _ _ (by omega) (by rw [hc1, e1]) (by rw [hc2, e2]) (by rw [hc3, e3]) (by rw [hc4, e4, q1, q2, Bool.and_true, ← z_bor, z_bt])
    · have hp : ¬ zPb s m = true := fun c => z_b0n b (hb.mpr (hpb.mp c))
      rw [if_neg hp] at hc1 hc2 hc3 hc4
      refine q_goto 924 dL_law_872 (by decide) ?_
      refine q_forget 24 ?_
      refine q_forget 25 ?_
      change q_W _ _ _ _ _ _ _ _ 924 [.ref 0, .ref 100, .int (nI t), .int (nI s.1), .int (nI na), .int (nI nb), .int (nI p), .int (nI u), .int a8, .int (nI a9), .ref ri, .ref rj, .int xin, .int xout, .int st, .int (nI pv), .int gr, .int cd, .int ct, .ref rg, .int (nI m1), .int (nI m2), .int tg, .int (nI m), q_u, q_u, q_u, q_u, q_u, q_u, q_u, q_u] [] _
      refine q_iinc (x := nI m) (v := nI (m + 1)) dL_law_924 rfl (nI_add _ 1) rfl ?_
      change q_W _ _ _ _ _ _ _ _ 927 [.ref 0, .ref 100, .int (nI t), .int (nI s.1), .int (nI na), .int (nI nb), .int (nI p), .int (nI u), .int a8, .int (nI a9), .ref ri, .ref rj, .int xin, .int xout, .int st, .int (nI pv), .int gr, .int cd, .int ct, .ref rg, .int (nI m1), .int (nI m2), .int tg, .int (nI (m + 1)), q_u, q_u, q_u, q_u, q_u, q_u, q_u, q_u] [] _
      refine q_goto 802 dL_law_927 (by decide) ?_
      exact ih (m + 1) _ _ _ _ (by omega) (by rw [hc1, e1]; rfl) (by rw [hc2, e2]) (by rw [hc3, e3]) (by rw [hc4, e4])
end SETS
