/-! the law's turn: what it tells of one argument's attackers -/
section HIT
variable {B : Nat} {s : ZS}
theorem m_hit (V : z_V B s) {v j : Nat} (hv : v < s.1) (hj : j < s.1) : z_bi (s.2.2.2.2.2.1 v) j = (z_has (s.2.2.2.2.1 j) v && !decide (zStr s j < zStr s v)) := by
  have h8 := V.1.1
  rw [← g_att V v hv, z_attb hj h8]
  unfold x_mo_wins x_mo_isAttack zStr
  have e1 : x_mo_strength (zAl s) j = x_st_strength s.2.2.1 s.2.2.2.1 j := by
    unfold x_mo_strength x_st_strength
    rw [V.R.wt hj, V.R.ag hj]
  have e2 : x_mo_strength (zAl s) v = x_st_strength s.2.2.1 s.2.2.2.1 v := by
    unfold x_mo_strength x_st_strength
    rw [V.R.wt hv, V.R.ag hv]
  rw [e1, e2, V.R.tg hj, z_has_bt _ (by omega)]
  have hb := z_bit1 (s.2.2.2.2.1 j) (show v < 32 by omega)
  cases q : z_bi (s.2.2.2.2.1 j) v with
  | false => simp [z_bit0 _ (show v < 32 by omega), hb, q]
  | true =>
    by_cases c : x_st_strength s.2.2.1 s.2.2.2.1 j < x_st_strength s.2.2.1 s.2.2.2.1 v <;> simp [z_bit0 _ (show v < 32 by omega), hb, q, c]
/-- the bits of x under j -/
def z_msk (x : Int32) : Nat → Int32
  | 0 => 0
  | j + 1 => if z_bi x j = true then z_msk x j ||| ((1 : Int32) <<< (nI j &&& 31)) else z_msk x j
theorem z_mskb (x : Int32) {i : Nat} (hi : i < 32) : ∀ j, j ≤ 32 → z_bi (z_msk x j) i = (z_bi x i && decide (i < j)) := by
  intro j
  induction j with
  | zero =>
    intro _
    show z_bi 0 i = _
    rw [z_bi_0, decide_eq_false (by omega), Bool.and_false]
  | succ j ih =>
    intro hj
    show z_bi (if z_bi x j = true then z_msk x j ||| ((1 : Int32) <<< (nI j &&& 31)) else z_msk x j) i = _
    by_cases q : i = j
    · subst q
      cases e : z_bi x i with
      | true => rw [if_pos rfl, z_bi_or, z_bi_shl (by omega) hi]; simp
      | false => rw [if_neg Bool.false_ne_true, ih (by omega), e]; rfl
    · have e2 : decide (i < j + 1) = decide (i < j) := decide_eq_decide.mpr (by omega)
      rw [e2, ← ih (by omega)]
      split
      · rw [z_bi_or, z_bi_shl (by omega) hi, decide_eq_false q, Bool.or_false]
      · rfl
theorem z_mskA (V : z_V B s) {v : Nat} (hv : v < s.1) : z_msk (s.2.2.2.2.2.1 v) s.1 = s.2.2.2.2.2.1 v := z_bi_ext fun i hi => by
  have h8 := V.1.1
  rw [z_mskb _ hi _ (by omega)]
  cases e : z_bi (s.2.2.2.2.2.1 v) i with
  | false => rfl
  | true =>
    rw [decide_eq_true (z_attlt V.1 hv hi e)]
    rfl
/-- the array of attackers, while it is filled -/
def zBy (s : ZS) (v j : Nat) : Nat → Int32 := fun i => if i < v then s.2.2.2.2.2.1 i else if i = v then z_msk (s.2.2.2.2.2.1 v) j else 0
theorem zBy_v (s : ZS) (v j : Nat) : zBy s v j v = z_msk (s.2.2.2.2.2.1 v) j := by
  unfold zBy
  rw [if_neg (by omega), if_pos rfl]
theorem zBy_hit {v j : Nat} (e : z_bi (s.2.2.2.2.2.1 v) j = true) (i : Nat) : upd (zBy s v j) v (zBy s v j v ||| ((1 : Int32) <<< (nI j &&& 31))) i = zBy s v (j + 1) i := by
  by_cases q : i = v
  · subst q
    rw [upd_eq, zBy_v, zBy_v]
    show _ = if z_bi (s.2.2.2.2.2.1 i) j = true then _ else _
    rw [if_pos e]
  · rw [upd_ne q]
    unfold zBy
    rw [if_neg q, if_neg q]
theorem zBy_no {v j : Nat} (e : ¬ z_bi (s.2.2.2.2.2.1 v) j = true) (i : Nat) : zBy s v j i = zBy s v (j + 1) i := by
  unfold zBy
  show (if i < v then s.2.2.2.2.2.1 i else if i = v then z_msk (s.2.2.2.2.2.1 v) j else 0) = (if i < v then s.2.2.2.2.2.1 i else if i = v then (if z_bi (s.2.2.2.2.2.1 v) j = true then _ else z_msk (s.2.2.2.2.2.1 v) j) else 0)
  rw [if_neg e]
theorem zBy_end (V : z_V B s) {v : Nat} (hv : v < s.1) (i : Nat) : zBy s v s.1 i = zBy s (v + 1) 0 i := by
  unfold zBy
  rw [z_mskA V hv]
  by_cases a : i < v
  · rw [if_pos a, if_pos (by omega)]
  · rw [if_neg a]
    by_cases b : i = v
    · subst b
      rw [if_pos rfl, if_pos (by omega)]
    · rw [if_neg b, if_neg (by omega)]
      show _ = if i = v + 1 then (0 : Int32) else 0
      split <;> rfl
theorem zBy_all (V : z_V B s) (i : Nat) (hi : i < s.1) : zBy s s.1 0 i = s.2.2.2.2.2.1 i := by
  unfold zBy
  rw [if_pos hi]
theorem zBy_0 (i : Nat) : zBy s 0 0 i = 0 := by
  unfold zBy
  rw [if_neg (by omega)]
  show (if i = 0 then (0 : Int32) else 0) = 0
  split <;> rfl
end HIT
section LIN
variable {g : q_G} {d mc ms : Nat} {Q : q_O → q_H → Prop} {s : ZS} {B : Nat}
theorem t_appV {pc kc ks lc : Nat} {ls st : List Value} {h : q_H} {fl : Nat → Int32} {N b w : Nat} {x : Int32} {L : List Int32} (X : z_X h s lc fl) (B : z_Bx h N b w L) (hN : N ≤ h.1) (hx : ∃ m, m < 10000 ∧ x = nI m) (hlen : (L ++ z_dgs x.toNatClampNeg).length ≤ 142) (hdc : decode mL_law.2.1 pc = .ok (.invokevirtual 180, 3)) (hst : st.length ≤ 3) (hd : 8 ≤ d) (hc : kc + 1 ≤ mc) (hs : ks + 286 ≤ ms)
    (kk : ∀ h1 w', z_X h1 s lc fl → z_Bx h1 N b w' (L ++ z_dgs x.toNatClampNeg) → q_on h h1 N → q_W g mL_law d mc ms Q (kc + 1) (ks + 286) (pc + 3) ls (.ref b :: st) h1) : q_W g mL_law d mc ms Q kc ks pc ls (.int x :: .ref b :: st) h := by
  obtain ⟨m, hm, e⟩ := hx
  subst e
  rw [nI_clamp (by omega)] at hlen kk
  exact t_appI X B hN hm hlen hdc hst hd hc hs kk
theorem z_dgl {x : Int32} (h : ∃ m, m < 1000 ∧ x = nI m) : (z_dgs x.toNatClampNeg).length ≤ 3 := by
  obtain ⟨m, hm, e⟩ := h
  rw [e, nI_clamp (by omega), z_dglen]
  exact tx_dg3 hm
set_option maxRecDepth 100000 in
set_option maxHeartbeats 8000000 in
theorem l_in {t a5 a9 v ri rj KC KS lc : Nat} {a8 : Int32} {fl : Nat → Int32} (V : z_V B s) (hB : B ≤ 1000) (hv : v < s.1) (ho : q_isold g 0) (hIJ : ri < rj) (hd : 30 ≤ d) (hKC : KC ≤ mc) (hKS : KS ≤ ms)
    (K : ∀ kc ks h na c j rs vs L, z_X h s lc fl → z_arr 0 h ri s.1 s.2.1 → z_arr 0 h rj s.1 (zBy s v s.1) → z_Tx h (rj + 1) rs vs L → L = z_lP s.2.1 s.2.2.2.2.2.1 v s.1 → na = zAs s v + zCl s v s.1 → c = z_cn (s.2.2.2.2.2.1 v) s.1 → j = s.1 → kc ≤ KC → ks ≤ KS → q_W g mL_law d mc ms Q kc ks 345 [.ref 0, .ref 100, .int (nI t), .int (nI s.1), .int (nI na), .int (nI a5), .int 0, .int 0, .int a8, .int (nI a9), .ref ri, .ref rj, .int (nI v), .int (s.2.1 v), .int (nI c), .ref rs, .int (nI j), q_u, q_u, q_u, q_u, q_u, q_u, q_u, q_u, q_u, q_u, q_u, q_u, q_u, q_u, q_u] [] h) :
    ∀ r j kc ks h na c rs vs L, j + r = s.1 → z_X h s lc fl → z_arr 0 h ri s.1 s.2.1 → z_arr 0 h rj s.1 (zBy s v j) → z_Tx h (rj + 1) rs vs L → L = z_lP s.2.1 s.2.2.2.2.2.1 v j → na = zAs s v + zCl s v j → c = z_cn (s.2.2.2.2.2.1 v) j → kc + 20 * r ≤ KC → ks + 1200 * r ≤ KS → q_W g mL_law d mc ms Q kc ks 167 [.ref 0, .ref 100, .int (nI t), .int (nI s.1), .int (nI na), .int (nI a5), .int 0, .int 0, .int a8, .int (nI a9), .ref ri, .ref rj, .int (nI v), .int (s.2.1 v), .int (nI c), .ref rs, .int (nI j), q_u, q_u, q_u, q_u, q_u, q_u, q_u, q_u, q_u, q_u, q_u, q_u, q_u, q_u, q_u] [] h := by
  have h8 := V.1.1
  intro r
  induction r with
  | zero =>
    intro j kc ks h na c rs vs L hj X A B S hL hna hc hkc hks
    have e : j = s.1 := by omega
    subst e
    refine q_iload dL_law_167 rfl ?_
    refine q_iload_n dL_law_169 rfl ?_
    refine q_icmp_ge 345 dL_law_170 (by decide) (fun b => ?_) (fun b => absurd ((nI_leI (by omega) (by omega)).mpr (by omega)) b)
    exact K _ _ h na c s.1 rs vs L X A B S hL hna hc rfl (by omega) (by omega)
  | succ r ih =>
    intro j kc ks h na c rs vs L hj X A B S hL hna hc hkc hks
    have hjs : j < s.1 := by omega
    have hmh := m_hit V hv hjs
    have hcn : z_cn (s.2.2.2.2.2.1 v) (j + 1) = z_cn (s.2.2.2.2.2.1 v) j + if z_bi (s.2.2.2.2.2.1 v) j = true then 1 else 0 := rfl
    have hcl : zCl s v (j + 1) = zCl s v j + if z_bi (s.2.2.2.2.1 j) v = true then 1 else 0 := rfl
    have hlp : z_lP s.2.1 s.2.2.2.2.2.1 v (j + 1) = z_lP s.2.1 s.2.2.2.2.2.1 v j ++ (if z_bi (s.2.2.2.2.2.1 v) j = true then [60] ++ z_dgs (s.2.1 j).toNatClampNeg else []) := rfl
    have hle : L.length ≤ 4 * j := by
      rw [hL]
      exact z_lPlen3 V hB v j (by omega)
    have hcj := z_cn_le (s.2.2.2.2.2.1 v) j
    have hid : ∃ m, m < 1000 ∧ s.2.1 j = nI m := by
      obtain ⟨m, hm, e⟩ := V.id hjs
      exact ⟨m, by omega, e⟩
    have hdl := z_dgl hid
    have hht := z_has_bt (s.2.2.2.2.1 j) (show v < 32 by omega)
    have hha := z_has_bt (s.2.2.2.2.2.1 v) (show j < 32 by omega)
    have hlt := B.lt
    refine q_iload dL_law_167 rfl ?_
    refine q_iload_n dL_law_169 rfl ?_
    refine q_icmp_ge 345 dL_law_170 (by decide) (fun b => absurd ((nI_leI (by omega) (by omega)).mp b) (by omega)) (fun b => ?_)
    refine q_aload_n (by decide) dL_law_173 rfl ?_
    refine q_aload A.r0 dL_law_174 rfl ?_
    refine q_iload dL_law_176 rfl ?_
    refine a_ld A dL_law_178 (by omega) (by omega) ?_
    change q_W _ _ _ _ _ _ _ _ 179 [.ref 0, .ref 100, .int (nI t), .int (nI s.1), .int (nI na), .int (nI a5), .int 0, .int 0, .int a8, .int (nI a9), .ref ri, .ref rj, .int (nI v), .int (s.2.1 v), .int (nI c), .ref rs, .int (nI j), q_u, q_u, q_u, q_u, q_u, q_u, q_u, q_u, q_u, q_u, q_u, q_u, q_u, q_u, q_u] [.int (s.2.1 j), .ref 100] _
    refine q_iload dL_law_179 rfl ?_
    obtain ⟨fo1, ho1⟩ := X.obj
    refine q_invV (mc' := 2) (ms' := 12) (d' := d - 1) (as := [.int (s.2.1 j), .int (s.2.1 v)]) dL_law_181 kM_X10_hasAttack kL_L_164 kI_X10_hasAttack kS_X10_hasAttack rfl (kC_X10.1) ho1 rfl rfl (Nat.le_of_ble_eq_true rfl) (by omega) (by decide) (by omega) (by omega) (k_hasAttack (d := d - 1) X V hjs hv (by omega)) (q_kC (fun h1 hB => ?_)) q_xC
    obtain ⟨X1, z_1⟩ := hB
    have A_1 := A.zone z_1
    have B_1 := B.zone z_1
    have S_1 := S.zone z_1
    change q_W _ _ _ _ _ _ _ _ 184 [.ref 0, .ref 100, .int (nI t), .int (nI s.1), .int (nI na), .int (nI a5), .int 0, .int 0, .int a8, .int (nI a9), .ref ri, .ref rj, .int (nI v), .int (s.2.1 v), .int (nI c), .ref rs, .int (nI j), q_u, q_u, q_u, q_u, q_u, q_u, q_u, q_u, q_u, q_u, q_u, q_u, q_u, q_u, q_u] [.int (z_b (z_has (s.2.2.2.2.1 j) v))] _
    refine q_istore dL_law_184 (by decide) rfl ?_
    change q_W _ _ _ _ _ _ _ _ 186 [.ref 0, .ref 100, .int (nI t), .int (nI s.1), .int (nI na), .int (nI a5), .int 0, .int 0, .int a8, .int (nI a9), .ref ri, .ref rj, .int (nI v), .int (s.2.1 v), .int (nI c), .ref rs, .int (nI j), .int (z_b (z_has (s.2.2.2.2.1 j) v)), q_u, q_u, q_u, q_u, q_u, q_u, q_u, q_u, q_u, q_u, q_u, q_u, q_u, q_u] [] _
    refine q_iload dL_law_186 rfl ?_
    cases hh : z_has (s.2.2.2.2.1 j) v with
    | false =>
      have hbi : z_bi (s.2.2.2.2.2.1 v) j = false := by rw [hmh, hh]; rfl
      change q_W _ _ _ _ _ _ _ _ 188 [.ref 0, .ref 100, .int (nI t), .int (nI s.1), .int (nI na), .int (nI a5), .int 0, .int 0, .int a8, .int (nI a9), .ref ri, .ref rj, .int (nI v), .int (s.2.1 v), .int (nI c), .ref rs, .int (nI j), .int (z_b false), q_u, q_u, q_u, q_u, q_u, q_u, q_u, q_u, q_u, q_u, q_u, q_u, q_u, q_u] [.int (z_b false)] _
      refine q_if_eq 213 dL_law_188 (by decide) (fun b => ?_) (fun b => absurd rfl b)
      refine q_iconst (v := 0) dL_law_213 rfl ?_
      refine q_istore dL_law_214 (by decide) rfl ?_
      change q_W _ _ _ _ _ _ _ _ 216 [.ref 0, .ref 100, .int (nI t), .int (nI s.1), .int (nI na), .int (nI a5), .int 0, .int 0, .int a8, .int (nI a9), .ref ri, .ref rj, .int (nI v), .int (s.2.1 v), .int (nI c), .ref rs, .int (nI j), .int (z_b false), .int 0, q_u, q_u, q_u, q_u, q_u, q_u, q_u, q_u, q_u, q_u, q_u, q_u, q_u] [] _
      refine q_aload_n (by decide) dL_law_216 rfl ?_
      refine q_aload A_1.r0 dL_law_217 rfl ?_
      refine q_iload dL_law_219 rfl ?_
      refine a_ld A_1 dL_law_221 (by omega) (by omega) ?_
      change q_W _ _ _ _ _ _ _ _ 222 [.ref 0, .ref 100, .int (nI t), .int (nI s.1), .int (nI na), .int (nI a5), .int 0, .int 0, .int a8, .int (nI a9), .ref ri, .ref rj, .int (nI v), .int (s.2.1 v), .int (nI c), .ref rs, .int (nI j), .int (z_b false), .int 0, q_u, q_u, q_u, q_u, q_u, q_u, q_u, q_u, q_u, q_u, q_u, q_u, q_u] [.int (s.2.1 j), .ref 100] _
      refine q_iload dL_law_222 rfl ?_
      refine q_invSH (mc' := 3) (ms' := 18) (d' := d - 1) (as := [.ref 100, .int (s.2.1 j), .int (s.2.1 v)]) dL_law_224 kM_L_isSuccessful kL_L_167 kT_L_isSuccessful rfl rfl rfl (Nat.le_of_ble_eq_true rfl) (by omega) (by decide) (by omega) (by omega) (w_isSuccessful (d := d - 1) X1 V hjs hv (by omega)) (q_kC (fun h2 hB => ?_)) q_xC
      obtain ⟨X2, z_2⟩ := hB
      have A_2 := A_1.zone z_2
      have B_2 := B_1.zone z_2
      have S_2 := S_1.zone z_2
      change q_W _ _ _ _ _ _ _ _ 227 [.ref 0, .ref 100, .int (nI t), .int (nI s.1), .int (nI na), .int (nI a5), .int 0, .int 0, .int a8, .int (nI a9), .ref ri, .ref rj, .int (nI v), .int (s.2.1 v), .int (nI c), .ref rs, .int (nI j), .int (z_b false), .int 0, q_u, q_u, q_u, q_u, q_u, q_u, q_u, q_u, q_u, q_u, q_u, q_u, q_u] [.int (if z_has (s.2.2.2.2.1 j) v then z_b (z_has (s.2.2.2.2.2.1 v) j) else -30000)] _
      refine q_iload dL_law_227 rfl ?_
      refine q_if_eq 245 dL_law_229 (by decide) (fun b => ?_) (fun b => absurd rfl b)
      refine q_sipush (v := -30000) dL_law_245 rfl ?_
      refine q_icmp_eq 253 dL_law_248 (by decide) (fun b => ?_) (fun b => absurd (by rw [hh]; rfl) b)
      refine q_iload dL_law_253 rfl ?_
      refine q_iload dL_law_255 rfl ?_
      refine q_if_eq 264 dL_law_257 (by decide) (fun b => ?_) (fun b => absurd rfl b)
      refine q_iconst (v := 0) dL_law_264 rfl ?_
      refine q_iaddN (a := na) (b := 0) dL_law_265 ?_
      refine q_istore dL_law_266 (by decide) rfl ?_
      change q_W _ _ _ _ _ _ _ _ 268 [.ref 0, .ref 100, .int (nI t), .int (nI s.1), .int (nI (na + 0)), .int (nI a5), .int 0, .int 0, .int a8, .int (nI a9), .ref ri, .ref rj, .int (nI v), .int (s.2.1 v), .int (nI c), .ref rs, .int (nI j), .int (z_b false), .int 0, q_u, q_u, q_u, q_u, q_u, q_u, q_u, q_u, q_u, q_u, q_u, q_u, q_u] [] _
      refine q_iload dL_law_268 rfl ?_
      refine q_if_ne 276 dL_law_270 (by decide) (fun b => absurd rfl b) (fun b => ?_)
      refine q_goto 339 dL_law_273 (by decide) ?_
      refine q_iinc (x := nI j) (v := nI (j + 1)) dL_law_339 rfl (nI_add _ 1) rfl ?_
      change q_W _ _ _ _ _ _ _ _ 342 [.ref 0, .ref 100, .int (nI t), .int (nI s.1), .int (nI (na + 0)), .int (nI a5), .int 0, .int 0, .int a8, .int (nI a9), .ref ri, .ref rj, .int (nI v), .int (s.2.1 v), .int (nI c), .ref rs, .int (nI (j + 1)), .int (z_b false), .int 0, q_u, q_u, q_u, q_u, q_u, q_u, q_u, q_u, q_u, q_u, q_u, q_u, q_u] [] _
      refine q_forget 17 ?_
      refine q_forget 18 ?_
      change q_W _ _ _ _ _ _ _ _ 342 [.ref 0, .ref 100, .int (nI t), .int (nI s.1), .int (nI (na + 0)), .int (nI a5), .int 0, .int 0, .int a8, .int (nI a9), .ref ri, .ref rj, .int (nI v), .int (s.2.1 v), .int (nI c), .ref rs, .int (nI (j + 1)), q_u, q_u, q_u, q_u, q_u, q_u, q_u, q_u, q_u, q_u, q_u, q_u, q_u, q_u, q_u] [] _
      refine q_goto 167 dL_law_342 (by decide) ?_
      exact ih (j + 1) _ _ h2 (na + 0) c rs vs L (by omega) X2 A_2 (B_2.eq (fun i _ => zBy_no (by rw [hbi]; decide) i)) S_2 (by rw [hlp, hbi, hL]; simp [List.append_assoc]) (by rw [hcl, ← hht, hh, hna]; rfl) (by rw [hcn, hbi, hc]; rfl) (by omega) (by omega)
    | true =>
      change q_W _ _ _ _ _ _ _ _ 188 [.ref 0, .ref 100, .int (nI t), .int (nI s.1), .int (nI na), .int (nI a5), .int 0, .int 0, .int a8, .int (nI a9), .ref ri, .ref rj, .int (nI v), .int (s.2.1 v), .int (nI c), .ref rs, .int (nI j), .int (z_b true), q_u, q_u, q_u, q_u, q_u, q_u, q_u, q_u, q_u, q_u, q_u, q_u, q_u, q_u] [.int (z_b true)] _
      by_cases hst : zStr s j < zStr s v
      · have hbi : z_bi (s.2.2.2.2.2.1 v) j = false := by rw [hmh, hh, decide_eq_true hst]; rfl
        refine q_if_eq 213 dL_law_188 (by decide) (fun b => absurd b (by decide)) (fun b => ?_)
        refine q_aload_n (by decide) dL_law_191 rfl ?_
        refine q_aload A_1.r0 dL_law_192 rfl ?_
        refine q_iload dL_law_194 rfl ?_
        refine a_ld A_1 dL_law_196 (by omega) (by omega) ?_
        change q_W _ _ _ _ _ _ _ _ 197 [.ref 0, .ref 100, .int (nI t), .int (nI s.1), .int (nI na), .int (nI a5), .int 0, .int 0, .int a8, .int (nI a9), .ref ri, .ref rj, .int (nI v), .int (s.2.1 v), .int (nI c), .ref rs, .int (nI j), .int (z_b true), q_u, q_u, q_u, q_u, q_u, q_u, q_u, q_u, q_u, q_u, q_u, q_u, q_u, q_u] [.int (s.2.1 j), .ref 100] _
        obtain ⟨fo3, ho3⟩ := X1.obj
        refine q_invV (mc' := 1) (ms' := 6) (d' := d - 1) (as := [.int (s.2.1 j)]) dL_law_197 kM_X10_strengthOf kL_L_148 kI_X10_strengthOf kS_X10_strengthOf rfl (kC_X10.1) ho3 rfl rfl (Nat.le_of_ble_eq_true rfl) (by omega) (by decide) (by omega) (by omega) (k_strengthOf (d := d - 1) X1 V hjs (by omega)) (q_kC (fun h3 hB => ?_)) q_xC
        obtain ⟨X3, z_3⟩ := hB
        have A_3 := A_1.zone z_3
        have B_3 := B_1.zone z_3
        have S_3 := S_1.zone z_3
        change q_W _ _ _ _ _ _ _ _ 200 [.ref 0, .ref 100, .int (nI t), .int (nI s.1), .int (nI na), .int (nI a5), .int 0, .int 0, .int a8, .int (nI a9), .ref ri, .ref rj, .int (nI v), .int (s.2.1 v), .int (nI c), .ref rs, .int (nI j), .int (z_b true), q_u, q_u, q_u, q_u, q_u, q_u, q_u, q_u, q_u, q_u, q_u, q_u, q_u, q_u] [.int (zStr s j)] _
        refine q_aload_n (by decide) dL_law_200 rfl ?_
        refine q_iload dL_law_201 rfl ?_
        obtain ⟨fo4, ho4⟩ := X3.obj
        refine q_invV (mc' := 1) (ms' := 6) (d' := d - 1) (as := [.int (s.2.1 v)]) dL_law_203 kM_X10_strengthOf kL_L_148 kI_X10_strengthOf kS_X10_strengthOf rfl (kC_X10.1) ho4 rfl rfl (Nat.le_of_ble_eq_true rfl) (by omega) (by decide) (by omega) (by omega) (k_strengthOf (d := d - 1) X3 V hv (by omega)) (q_kC (fun h4 hB => ?_)) q_xC
        obtain ⟨X4, z_4⟩ := hB
        have A_4 := A_3.zone z_4
        have B_4 := B_3.zone z_4
        have S_4 := S_3.zone z_4
        change q_W _ _ _ _ _ _ _ _ 206 [.ref 0, .ref 100, .int (nI t), .int (nI s.1), .int (nI na), .int (nI a5), .int 0, .int 0, .int a8, .int (nI a9), .ref ri, .ref rj, .int (nI v), .int (s.2.1 v), .int (nI c), .ref rs, .int (nI j), .int (z_b true), q_u, q_u, q_u, q_u, q_u, q_u, q_u, q_u, q_u, q_u, q_u, q_u, q_u, q_u] [.int (zStr s v), .int (zStr s j)] _
        refine q_icmp_lt 213 dL_law_206 (by decide) (fun b => ?_) (fun b => absurd hst b)
        refine q_iconst (v := 0) dL_law_213 rfl ?_
        refine q_istore dL_law_214 (by decide) rfl ?_
        change q_W _ _ _ _ _ _ _ _ 216 [.ref 0, .ref 100, .int (nI t), .int (nI s.1), .int (nI na), .int (nI a5), .int 0, .int 0, .int a8, .int (nI a9), .ref ri, .ref rj, .int (nI v), .int (s.2.1 v), .int (nI c), .ref rs, .int (nI j), .int (z_b true), .int 0, q_u, q_u, q_u, q_u, q_u, q_u, q_u, q_u, q_u, q_u, q_u, q_u, q_u] [] _
        refine q_aload_n (by decide) dL_law_216 rfl ?_
        refine q_aload A_4.r0 dL_law_217 rfl ?_
        refine q_iload dL_law_219 rfl ?_
        refine a_ld A_4 dL_law_221 (by omega) (by omega) ?_
        change q_W _ _ _ _ _ _ _ _ 222 [.ref 0, .ref 100, .int (nI t), .int (nI s.1), .int (nI na), .int (nI a5), .int 0, .int 0, .int a8, .int (nI a9), .ref ri, .ref rj, .int (nI v), .int (s.2.1 v), .int (nI c), .ref rs, .int (nI j), .int (z_b true), .int 0, q_u, q_u, q_u, q_u, q_u, q_u, q_u, q_u, q_u, q_u, q_u, q_u, q_u] [.int (s.2.1 j), .ref 100] _
        refine q_iload dL_law_222 rfl ?_
        refine q_invSH (mc' := 3) (ms' := 18) (d' := d - 1) (as := [.ref 100, .int (s.2.1 j), .int (s.2.1 v)]) dL_law_224 kM_L_isSuccessful kL_L_167 kT_L_isSuccessful rfl rfl rfl (Nat.le_of_ble_eq_true rfl) (by omega) (by decide) (by omega) (by omega) (w_isSuccessful (d := d - 1) X4 V hjs hv (by omega)) (q_kC (fun h5 hB => ?_)) q_xC
        obtain ⟨X5, z_5⟩ := hB
        have A_5 := A_4.zone z_5
        have B_5 := B_4.zone z_5
        have S_5 := S_4.zone z_5
        change q_W _ _ _ _ _ _ _ _ 227 [.ref 0, .ref 100, .int (nI t), .int (nI s.1), .int (nI na), .int (nI a5), .int 0, .int 0, .int a8, .int (nI a9), .ref ri, .ref rj, .int (nI v), .int (s.2.1 v), .int (nI c), .ref rs, .int (nI j), .int (z_b true), .int 0, q_u, q_u, q_u, q_u, q_u, q_u, q_u, q_u, q_u, q_u, q_u, q_u, q_u] [.int (if z_has (s.2.2.2.2.1 j) v then z_b (z_has (s.2.2.2.2.2.1 v) j) else -30000)] _
        refine q_iload dL_law_227 rfl ?_
        refine q_if_eq 245 dL_law_229 (by decide) (fun b => absurd b (by decide)) (fun b => ?_)
        refine q_iload dL_law_232 rfl ?_
        refine q_if_eq 241 dL_law_234 (by decide) (fun b => ?_) (fun b => absurd rfl b)
        refine q_iconst (v := 0) dL_law_241 rfl ?_
        refine q_goto 248 dL_law_242 (by decide) ?_
        refine q_icmp_eq 253 dL_law_248 (by decide) (fun b => ?_) (fun b => absurd (by rw [hh, hha, hbi]; rfl) b)
        refine q_iload dL_law_253 rfl ?_
        refine q_iload dL_law_255 rfl ?_
        refine q_if_eq 264 dL_law_257 (by decide) (fun b => absurd b (by decide)) (fun b => ?_)
        refine q_iconst (v := 1) dL_law_260 rfl ?_
        refine q_goto 265 dL_law_261 (by decide) ?_
        refine q_iaddN (a := na) (b := 1) dL_law_265 ?_
        refine q_istore dL_law_266 (by decide) rfl ?_
        change q_W _ _ _ _ _ _ _ _ 268 [.ref 0, .ref 100, .int (nI t), .int (nI s.1), .int (nI (na + 1)), .int (nI a5), .int 0, .int 0, .int a8, .int (nI a9), .ref ri, .ref rj, .int (nI v), .int (s.2.1 v), .int (nI c), .ref rs, .int (nI j), .int (z_b true), .int 0, q_u, q_u, q_u, q_u, q_u, q_u, q_u, q_u, q_u, q_u, q_u, q_u, q_u] [] _
        refine q_iload dL_law_268 rfl ?_
        refine q_if_ne 276 dL_law_270 (by decide) (fun b => absurd rfl b) (fun b => ?_)
        refine q_goto 339 dL_law_273 (by decide) ?_
        refine q_iinc (x := nI j) (v := nI (j + 1)) dL_law_339 rfl (nI_add _ 1) rfl ?_
        change q_W _ _ _ _ _ _ _ _ 342 [.ref 0, .ref 100, .int (nI t), .int (nI s.1), .int (nI (na + 1)), .int (nI a5), .int 0, .int 0, .int a8, .int (nI a9), .ref ri, .ref rj, .int (nI v), .int (s.2.1 v), .int (nI c), .ref rs, .int (nI (j + 1)), .int (z_b true), .int 0, q_u, q_u, q_u, q_u, q_u, q_u, q_u, q_u, q_u, q_u, q_u, q_u, q_u] [] _
        refine q_forget 17 ?_
        refine q_forget 18 ?_
        change q_W _ _ _ _ _ _ _ _ 342 [.ref 0, .ref 100, .int (nI t), .int (nI s.1), .int (nI (na + 1)), .int (nI a5), .int 0, .int 0, .int a8, .int (nI a9), .ref ri, .ref rj, .int (nI v), .int (s.2.1 v), .int (nI c), .ref rs, .int (nI (j + 1)), q_u, q_u, q_u, q_u, q_u, q_u, q_u, q_u, q_u, q_u, q_u, q_u, q_u, q_u, q_u] [] _
        refine q_goto 167 dL_law_342 (by decide) ?_
        exact ih (j + 1) _ _ h5 (na + 1) c rs vs L (by omega) X5 A_5 (B_5.eq (fun i _ => zBy_no (by rw [hbi]; decide) i)) S_5 (by rw [hlp, hbi, hL]; simp [List.append_assoc]) (by rw [hcl, ← hht, hh, hna]; rfl) (by rw [hcn, hbi, hc]; rfl) (by omega) (by omega)
      · have hbi : z_bi (s.2.2.2.2.2.1 v) j = true := by rw [hmh, hh, decide_eq_false hst]; rfl
        refine q_if_eq 213 dL_law_188 (by decide) (fun b => absurd b (by decide)) (fun b => ?_)
        refine q_aload_n (by decide) dL_law_191 rfl ?_
        refine q_aload A_1.r0 dL_law_192 rfl ?_
        refine q_iload dL_law_194 rfl ?_
        refine a_ld A_1 dL_law_196 (by omega) (by omega) ?_
        change q_W _ _ _ _ _ _ _ _ 197 [.ref 0, .ref 100, .int (nI t), .int (nI s.1), .int (nI na), .int (nI a5), .int 0, .int 0, .int a8, .int (nI a9), .ref ri, .ref rj, .int (nI v), .int (s.2.1 v), .int (nI c), .ref rs, .int (nI j), .int (z_b true), q_u, q_u, q_u, q_u, q_u, q_u, q_u, q_u, q_u, q_u, q_u, q_u, q_u, q_u] [.int (s.2.1 j), .ref 100] _
        obtain ⟨fo6, ho6⟩ := X1.obj
        refine q_invV (mc' := 1) (ms' := 6) (d' := d - 1) (as := [.int (s.2.1 j)]) dL_law_197 kM_X10_strengthOf kL_L_148 kI_X10_strengthOf kS_X10_strengthOf rfl (kC_X10.1) ho6 rfl rfl (Nat.le_of_ble_eq_true rfl) (by omega) (by decide) (by omega) (by omega) (k_strengthOf (d := d - 1) X1 V hjs (by omega)) (q_kC (fun h6 hB => ?_)) q_xC
        obtain ⟨X6, z_6⟩ := hB
        have A_6 := A_1.zone z_6
        have B_6 := B_1.zone z_6
        have S_6 := S_1.zone z_6
        change q_W _ _ _ _ _ _ _ _ 200 [.ref 0, .ref 100, .int (nI t), .int (nI s.1), .int (nI na), .int (nI a5), .int 0, .int 0, .int a8, .int (nI a9), .ref ri, .ref rj, .int (nI v), .int (s.2.1 v), .int (nI c), .ref rs, .int (nI j), .int (z_b true), q_u, q_u, q_u, q_u, q_u, q_u, q_u, q_u, q_u, q_u, q_u, q_u, q_u, q_u] [.int (zStr s j)] _
        refine q_aload_n (by decide) dL_law_200 rfl ?_
        refine q_iload dL_law_201 rfl ?_
        obtain ⟨fo7, ho7⟩ := X6.obj
        refine q_invV (mc' := 1) (ms' := 6) (d' := d - 1) (as := [.int (s.2.1 v)]) dL_law_203 kM_X10_strengthOf kL_L_148 kI_X10_strengthOf kS_X10_strengthOf rfl (kC_X10.1) ho7 rfl rfl (Nat.le_of_ble_eq_true rfl) (by omega) (by decide) (by omega) (by omega) (k_strengthOf (d := d - 1) X6 V hv (by omega)) (q_kC (fun h7 hB => ?_)) q_xC
        obtain ⟨X7, z_7⟩ := hB
        have A_7 := A_6.zone z_7
        have B_7 := B_6.zone z_7
        have S_7 := S_6.zone z_7
        change q_W _ _ _ _ _ _ _ _ 206 [.ref 0, .ref 100, .int (nI t), .int (nI s.1), .int (nI na), .int (nI a5), .int 0, .int 0, .int a8, .int (nI a9), .ref ri, .ref rj, .int (nI v), .int (s.2.1 v), .int (nI c), .ref rs, .int (nI j), .int (z_b true), q_u, q_u, q_u, q_u, q_u, q_u, q_u, q_u, q_u, q_u, q_u, q_u, q_u, q_u] [.int (zStr s v), .int (zStr s j)] _
        refine q_icmp_lt 213 dL_law_206 (by decide) (fun b => absurd b hst) (fun b => ?_)
        refine q_iconst (v := 1) dL_law_209 rfl ?_
        refine q_goto 214 dL_law_210 (by decide) ?_
        refine q_istore dL_law_214 (by decide) rfl ?_
        change q_W _ _ _ _ _ _ _ _ 216 [.ref 0, .ref 100, .int (nI t), .int (nI s.1), .int (nI na), .int (nI a5), .int 0, .int 0, .int a8, .int (nI a9), .ref ri, .ref rj, .int (nI v), .int (s.2.1 v), .int (nI c), .ref rs, .int (nI j), .int (z_b true), .int 1, q_u, q_u, q_u, q_u, q_u, q_u, q_u, q_u, q_u, q_u, q_u, q_u, q_u] [] _
        refine q_aload_n (by decide) dL_law_216 rfl ?_
        refine q_aload A_7.r0 dL_law_217 rfl ?_
        refine q_iload dL_law_219 rfl ?_
        refine a_ld A_7 dL_law_221 (by omega) (by omega) ?_
        change q_W _ _ _ _ _ _ _ _ 222 [.ref 0, .ref 100, .int (nI t), .int (nI s.1), .int (nI na), .int (nI a5), .int 0, .int 0, .int a8, .int (nI a9), .ref ri, .ref rj, .int (nI v), .int (s.2.1 v), .int (nI c), .ref rs, .int (nI j), .int (z_b true), .int 1, q_u, q_u, q_u, q_u, q_u, q_u, q_u, q_u, q_u, q_u, q_u, q_u, q_u] [.int (s.2.1 j), .ref 100] _
        refine q_iload dL_law_222 rfl ?_
        refine q_invSH (mc' := 3) (ms' := 18) (d' := d - 1) (as := [.ref 100, .int (s.2.1 j), .int (s.2.1 v)]) dL_law_224 kM_L_isSuccessful kL_L_167 kT_L_isSuccessful rfl rfl rfl (Nat.le_of_ble_eq_true rfl) (by omega) (by decide) (by omega) (by omega) (w_isSuccessful (d := d - 1) X7 V hjs hv (by omega)) (q_kC (fun h8 hB => ?_)) q_xC
        obtain ⟨X8, z_8⟩ := hB
        have A_8 := A_7.zone z_8
        have B_8 := B_7.zone z_8
        have S_8 := S_7.zone z_8
        change q_W _ _ _ _ _ _ _ _ 227 [.ref 0, .ref 100, .int (nI t), .int (nI s.1), .int (nI na), .int (nI a5), .int 0, .int 0, .int a8, .int (nI a9), .ref ri, .ref rj, .int (nI v), .int (s.2.1 v), .int (nI c), .ref rs, .int (nI j), .int (z_b true), .int 1, q_u, q_u, q_u, q_u, q_u, q_u, q_u, q_u, q_u, q_u, q_u, q_u, q_u] [.int (if z_has (s.2.2.2.2.1 j) v then z_b (z_has (s.2.2.2.2.2.1 v) j) else -30000)] _
        refine q_iload dL_law_227 rfl ?_
        refine q_if_eq 245 dL_law_229 (by decide) (fun b => absurd b (by decide)) (fun b => ?_)
        refine q_iload dL_law_232 rfl ?_
        refine q_if_eq 241 dL_law_234 (by decide) (fun b => absurd b (by decide)) (fun b => ?_)
        refine q_iconst (v := 1) dL_law_237 rfl ?_
        refine q_goto 248 dL_law_238 (by decide) ?_
        refine q_icmp_eq 253 dL_law_248 (by decide) (fun b => ?_) (fun b => absurd (by rw [hh, hha, hbi]; rfl) b)
        refine q_iload dL_law_253 rfl ?_
        refine q_iload dL_law_255 rfl ?_
        refine q_if_eq 264 dL_law_257 (by decide) (fun b => absurd b (by decide)) (fun b => ?_)
        refine q_iconst (v := 1) dL_law_260 rfl ?_
        refine q_goto 265 dL_law_261 (by decide) ?_
        refine q_iaddN (a := na) (b := 1) dL_law_265 ?_
        refine q_istore dL_law_266 (by decide) rfl ?_
        change q_W _ _ _ _ _ _ _ _ 268 [.ref 0, .ref 100, .int (nI t), .int (nI s.1), .int (nI (na + 1)), .int (nI a5), .int 0, .int 0, .int a8, .int (nI a9), .ref ri, .ref rj, .int (nI v), .int (s.2.1 v), .int (nI c), .ref rs, .int (nI j), .int (z_b true), .int 1, q_u, q_u, q_u, q_u, q_u, q_u, q_u, q_u, q_u, q_u, q_u, q_u, q_u] [] _
        refine q_iload dL_law_268 rfl ?_
        refine q_if_ne 276 dL_law_270 (by decide) (fun b => ?_) (fun b => absurd b (show ¬ (1 : Int32) = 0 by decide))
        refine q_aload_n (by decide) dL_law_276 rfl ?_
        refine q_iload dL_law_277 rfl ?_
        refine q_iload dL_law_279 rfl ?_
        subst hc
        refine q_invSH (mc' := 2) (ms' := 12) (d' := d - 1) (as := [.ref 100, .int (s.2.1 v), .int (nI (z_cn (s.2.2.2.2.2.1 v) j))]) dL_law_281 kM_L_attackerAt kL_L_169 kT_L_attackerAt rfl rfl rfl (Nat.le_of_ble_eq_true rfl) (by omega) (by decide) (by omega) (by omega) (w_attackerAt (d := d - 1) X8 V hv hjs hbi (by omega)) (q_kC (fun h9 hB => ?_)) q_xC
        obtain ⟨X9, z_9⟩ := hB
        have A_9 := A_8.zone z_9
        have B_9 := B_8.zone z_9
        have S_9 := S_8.zone z_9
        change q_W _ _ _ _ _ _ _ _ 284 [.ref 0, .ref 100, .int (nI t), .int (nI s.1), .int (nI (na + 1)), .int (nI a5), .int 0, .int 0, .int a8, .int (nI a9), .ref ri, .ref rj, .int (nI v), .int (s.2.1 v), .int (nI (z_cn (s.2.2.2.2.2.1 v) j)), .ref rs, .int (nI j), .int (z_b true), .int 1, q_u, q_u, q_u, q_u, q_u, q_u, q_u, q_u, q_u, q_u, q_u, q_u, q_u] [.int (s.2.1 j)] _
        refine q_aload A_9.r0 dL_law_284 rfl ?_
        refine q_iload dL_law_286 rfl ?_
        refine a_ld A_9 dL_law_288 (by omega) (by omega) ?_
        change q_W _ _ _ _ _ _ _ _ 289 [.ref 0, .ref 100, .int (nI t), .int (nI s.1), .int (nI (na + 1)), .int (nI a5), .int 0, .int 0, .int a8, .int (nI a9), .ref ri, .ref rj, .int (nI v), .int (s.2.1 v), .int (nI (z_cn (s.2.2.2.2.2.1 v) j)), .ref rs, .int (nI j), .int (z_b true), .int 1, q_u, q_u, q_u, q_u, q_u, q_u, q_u, q_u, q_u, q_u, q_u, q_u, q_u] [.int (s.2.1 j), .int (s.2.1 j)] _
        refine q_icmp_eq 294 dL_law_289 (by decide) (fun b => ?_) (fun b => absurd rfl b)
        refine q_aload B_9.r0 dL_law_294 rfl ?_
        refine q_iload dL_law_296 rfl ?_
        refine q_dup2 dL_law_298 rfl rfl ?_
        refine a_ld B_9 dL_law_299 (by omega) (by omega) ?_
        change q_W _ _ _ _ _ _ _ _ 300 [.ref 0, .ref 100, .int (nI t), .int (nI s.1), .int (nI (na + 1)), .int (nI a5), .int 0, .int 0, .int a8, .int (nI a9), .ref ri, .ref rj, .int (nI v), .int (s.2.1 v), .int (nI (z_cn (s.2.2.2.2.2.1 v) j)), .ref rs, .int (nI j), .int (z_b true), .int 1, q_u, q_u, q_u, q_u, q_u, q_u, q_u, q_u, q_u, q_u, q_u, q_u, q_u] [.int (zBy s v j v), .int (nI v), .ref rj] _
        refine q_iconst (v := 1) dL_law_300 rfl ?_
        refine q_iload dL_law_301 rfl ?_
        refine q_ishl dL_law_303 ?_
        refine q_ior dL_law_304 ?_
        refine a_st X9 B_9 dL_law_305 (by omega) (by omega) (fun h10 X10 B_10 o_10 => ?_)
        have A_10 := A_9.ow o_10 (by omega)
        have hf10 := S_9.far
        have S_10 := S_9.ow o_10 ⟨by omega, by omega⟩
        have B_10 := B_10.eq (fun i _ => zBy_hit hbi i)
        change q_W _ _ _ _ _ _ _ _ 306 [.ref 0, .ref 100, .int (nI t), .int (nI s.1), .int (nI (na + 1)), .int (nI a5), .int 0, .int 0, .int a8, .int (nI a9), .ref ri, .ref rj, .int (nI v), .int (s.2.1 v), .int (nI (z_cn (s.2.2.2.2.2.1 v) j)), .ref rs, .int (nI j), .int (z_b true), .int 1, q_u, q_u, q_u, q_u, q_u, q_u, q_u, q_u, q_u, q_u, q_u, q_u, q_u] [] _
        have hs0_11 := X10.s0
        have lt_A_10_11 := A_10.lt
        have lt_B_10_11 := B_10.lt
        have hsl := S_10.lt
        refine t_new X10 dL_law_306 dL_law_309 dL_law_310 (by simp only [List.length_cons, List.length_nil]; omega) (by omega) (by omega) (by omega) (fun h11 b11 w11 X11 D_11 o_11 => ?_)
        have A_11 := A_10.on o_11 (by omega)
        have B_11 := B_10.on o_11 (by omega)
        have S_11 := S_10.on o_11 ⟨by omega, by omega⟩
        have le_11 := o_11.le
        change q_W _ _ _ _ _ _ _ _ 313 [.ref 0, .ref 100, .int (nI t), .int (nI s.1), .int (nI (na + 1)), .int (nI a5), .int 0, .int 0, .int a8, .int (nI a9), .ref ri, .ref rj, .int (nI v), .int (s.2.1 v), .int (nI (z_cn (s.2.2.2.2.2.1 v) j)), .ref rs, .int (nI j), .int (z_b true), .int 1, q_u, q_u, q_u, q_u, q_u, q_u, q_u, q_u, q_u, q_u, q_u, q_u, q_u] [.ref b11] _
        refine q_aloadS S_11.lo dL_law_313 rfl ?_
        refine t_appS X11 D_11 S_11 hsl (by simp only [List.length_append, List.length_cons, List.length_nil]; omega) dL_law_315 (by simp only [List.length_cons, List.length_nil]; omega) (by omega) (by omega) (by omega) (fun h12 w12 X12 D_12 o_12 => ?_)
        have A_12 := A_11.on o_12 (by omega)
        have B_12 := B_11.on o_12 (by omega)
        have S_12 := S_11.on o_12 ⟨by omega, by omega⟩
        have le_12 := o_12.le
        change q_W _ _ _ _ _ _ _ _ 318 [.ref 0, .ref 100, .int (nI t), .int (nI s.1), .int (nI (na + 1)), .int (nI a5), .int 0, .int 0, .int a8, .int (nI a9), .ref ri, .ref rj, .int (nI v), .int (s.2.1 v), .int (nI (z_cn (s.2.2.2.2.2.1 v) j)), .ref rs, .int (nI j), .int (z_b true), .int 1, q_u, q_u, q_u, q_u, q_u, q_u, q_u, q_u, q_u, q_u, q_u, q_u, q_u] [.ref b11] _
        have S60 : z_Tx h12 0 15 26 [60] := z_Tx.const X12 1 0 (by decide)
        refine q_ldcS (k := 1) (by decide) rfl rfl dL_law_318 ?_
        change q_W _ _ _ _ _ _ _ _ 320 [.ref 0, .ref 100, .int (nI t), .int (nI s.1), .int (nI (na + 1)), .int (nI a5), .int 0, .int 0, .int a8, .int (nI a9), .ref ri, .ref rj, .int (nI v), .int (s.2.1 v), .int (nI (z_cn (s.2.2.2.2.2.1 v) j)), .ref rs, .int (nI j), .int (z_b true), .int 1, q_u, q_u, q_u, q_u, q_u, q_u, q_u, q_u, q_u, q_u, q_u, q_u, q_u] [.ref 15, .ref b11] _
        refine t_appS X12 D_12 S60 ⟨by omega, by omega⟩ (by simp only [List.length_append, List.length_cons, List.length_nil]; omega) dL_law_320 (by simp only [List.length_cons, List.length_nil]; omega) (by omega) (by omega) (by omega) (fun h13 w13 X13 D_13 o_13 => ?_)
        have A_13 := A_12.on o_13 (by omega)
        have B_13 := B_12.on o_13 (by omega)
        have S_13 := S_12.on o_13 ⟨by omega, by omega⟩
        have le_13 := o_13.le
        change q_W _ _ _ _ _ _ _ _ 323 [.ref 0, .ref 100, .int (nI t), .int (nI s.1), .int (nI (na + 1)), .int (nI a5), .int 0, .int 0, .int a8, .int (nI a9), .ref ri, .ref rj, .int (nI v), .int (s.2.1 v), .int (nI (z_cn (s.2.2.2.2.2.1 v) j)), .ref rs, .int (nI j), .int (z_b true), .int 1, q_u, q_u, q_u, q_u, q_u, q_u, q_u, q_u, q_u, q_u, q_u, q_u, q_u] [.ref b11] _
        refine q_aload A_13.r0 dL_law_323 rfl ?_
        refine q_iload dL_law_325 rfl ?_
        refine a_ld A_13 dL_law_327 (by omega) (by omega) ?_
        change q_W _ _ _ _ _ _ _ _ 328 [.ref 0, .ref 100, .int (nI t), .int (nI s.1), .int (nI (na + 1)), .int (nI a5), .int 0, .int 0, .int a8, .int (nI a9), .ref ri, .ref rj, .int (nI v), .int (s.2.1 v), .int (nI (z_cn (s.2.2.2.2.2.1 v) j)), .ref rs, .int (nI j), .int (z_b true), .int 1, q_u, q_u, q_u, q_u, q_u, q_u, q_u, q_u, q_u, q_u, q_u, q_u, q_u] [.int (s.2.1 j), .ref b11] _
        refine t_appV X13 D_13 (by omega) (hid.imp fun m q => ⟨by omega, q.2⟩) (by simp only [List.length_append, List.length_cons, List.length_nil]; omega) dL_law_328 (by simp only [List.length_cons, List.length_nil]; omega) (by omega) (by omega) (by omega) (fun h14 w14 X14 D_14 o_14 => ?_)
        have A_14 := A_13.on o_14 (by omega)
        have B_14 := B_13.on o_14 (by omega)
        have S_14 := S_13.on o_14 ⟨by omega, by omega⟩
        have le_14 := o_14.le
        change q_W _ _ _ _ _ _ _ _ 331 [.ref 0, .ref 100, .int (nI t), .int (nI s.1), .int (nI (na + 1)), .int (nI a5), .int 0, .int 0, .int a8, .int (nI a9), .ref ri, .ref rj, .int (nI v), .int (s.2.1 v), .int (nI (z_cn (s.2.2.2.2.2.1 v) j)), .ref rs, .int (nI j), .int (z_b true), .int 1, q_u, q_u, q_u, q_u, q_u, q_u, q_u, q_u, q_u, q_u, q_u, q_u, q_u] [.ref b11] _
        refine t_str X14 D_14 (by omega) (by simp only [List.length_append, List.length_cons, List.length_nil]; omega) dL_law_331 (by simp only [List.length_cons, List.length_nil]; omega) (by omega) (by omega) (by omega) (fun h15 r15 v15 X15 Z_15 o_15 => ?_)
        have A_15 := A_14.on o_15 (by omega)
        have B_15 := B_14.on o_15 (by omega)
        have S_15 := S_14.on o_15 ⟨by omega, by omega⟩
        have le_15 := o_15.le
        change q_W _ _ _ _ _ _ _ _ 334 [.ref 0, .ref 100, .int (nI t), .int (nI s.1), .int (nI (na + 1)), .int (nI a5), .int 0, .int 0, .int a8, .int (nI a9), .ref ri, .ref rj, .int (nI v), .int (s.2.1 v), .int (nI (z_cn (s.2.2.2.2.2.1 v) j)), .ref rs, .int (nI j), .int (z_b true), .int 1, q_u, q_u, q_u, q_u, q_u, q_u, q_u, q_u, q_u, q_u, q_u, q_u, q_u] [.ref r15] _
        refine q_astoreS Z_15.lo dL_law_334 (by decide) rfl ?_
        change q_W _ _ _ _ _ _ _ _ 336 [.ref 0, .ref 100, .int (nI t), .int (nI s.1), .int (nI (na + 1)), .int (nI a5), .int 0, .int 0, .int a8, .int (nI a9), .ref ri, .ref rj, .int (nI v), .int (s.2.1 v), .int (nI (z_cn (s.2.2.2.2.2.1 v) j)), .ref r15, .int (nI j), .int (z_b true), .int 1, q_u, q_u, q_u, q_u, q_u, q_u, q_u, q_u, q_u, q_u, q_u, q_u, q_u] [] _
        refine q_iinc (x := nI (z_cn (s.2.2.2.2.2.1 v) j)) (v := nI (z_cn (s.2.2.2.2.2.1 v) j + 1)) dL_law_336 rfl (nI_add _ 1) rfl ?_
        change q_W _ _ _ _ _ _ _ _ 339 [.ref 0, .ref 100, .int (nI t), .int (nI s.1), .int (nI (na + 1)), .int (nI a5), .int 0, .int 0, .int a8, .int (nI a9), .ref ri, .ref rj, .int (nI v), .int (s.2.1 v), .int (nI (z_cn (s.2.2.2.2.2.1 v) j + 1)), .ref r15, .int (nI j), .int (z_b true), .int 1, q_u, q_u, q_u, q_u, q_u, q_u, q_u, q_u, q_u, q_u, q_u, q_u, q_u] [] _
        refine q_iinc (x := nI j) (v := nI (j + 1)) dL_law_339 rfl (nI_add _ 1) rfl ?_
        change q_W _ _ _ _ _ _ _ _ 342 [.ref 0, .ref 100, .int (nI t), .int (nI s.1), .int (nI (na + 1)), .int (nI a5), .int 0, .int 0, .int a8, .int (nI a9), .ref ri, .ref rj, .int (nI v), .int (s.2.1 v), .int (nI (z_cn (s.2.2.2.2.2.1 v) j + 1)), .ref r15, .int (nI (j + 1)), .int (z_b true), .int 1, q_u, q_u, q_u, q_u, q_u, q_u, q_u, q_u, q_u, q_u, q_u, q_u, q_u] [] _
        refine q_forget 17 ?_
        refine q_forget 18 ?_
        change q_W _ _ _ _ _ _ _ _ 342 [.ref 0, .ref 100, .int (nI t), .int (nI s.1), .int (nI (na + 1)), .int (nI a5), .int 0, .int 0, .int a8, .int (nI a9), .ref ri, .ref rj, .int (nI v), .int (s.2.1 v), .int (nI (z_cn (s.2.2.2.2.2.1 v) j + 1)), .ref r15, .int (nI (j + 1)), q_u, q_u, q_u, q_u, q_u, q_u, q_u, q_u, q_u, q_u, q_u, q_u, q_u, q_u, q_u] [] _
        refine q_goto 167 dL_law_342 (by decide) ?_
        exact ih (j + 1) _ _ h15 (na + 1) (z_cn (s.2.2.2.2.2.1 v) j + 1) r15 v15 _ (by omega) X15 A_15 B_15 (Z_15.down (by omega)) (by rw [hlp, hbi, hL]; simp [List.append_assoc]) (by rw [hcl, ← hht, hh, hna]; rfl) (by rw [hcn, hbi]; rfl) (by omega) (by omega)
end LIN
