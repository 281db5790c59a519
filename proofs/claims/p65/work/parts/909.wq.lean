section WQ
variable {g : q_G} {h : q_H} {d B : Nat} {s : ZS} {lc : Nat} {fl : Nat → Int32}
/-- an answer that changes nothing that is told -/
def z_told (h : q_H) (s : ZS) (lc : Nat) (fl : Nat → Int32) (v : Int32) : q_O → q_H → Prop := q_chg (.inl (some (.int v))) (fun h1 => z_X h1 s lc fl ∧ q_zone h h1 100 115)
theorem k_isConsistent (X : z_X h s lc fl) (V : z_V B s) (hd : 24 ≤ d) : q_Spec g mX10_isConsistent d 0 0 [.ref (100)] h (q_chg (.inl (some (.int 1))) (fun h1 => z_X h1 s lc fl ∧ q_zone h h1 100 115)) := by
  obtain ⟨hs, se, sf, s1, nx, kp, rw, ic, fi, q1, q2, s2, ca, cj, co, won, lost, pf, cv, sc, pc, pp, po, vb, oa, ob, w⟩ := X
  refine q_Spec_mono (c_isConsistent (g := g) (d := d) w hd) (fun o h1 hQ => ?_)
  obtain ⟨e, x, y⟩ := hQ
  rw [u_cons V] at e
  exact ⟨e, ⟨hs, se, sf, s1, nx, kp, rw, ic, fi, q1, q2, x⟩, y⟩
theorem k_meanStrength (X : z_X h s lc fl) (V : z_V B s) (h0 : s.1 ≠ 0) (hd : 7 ≤ d) : q_Spec g mX10_meanStrength d 1 6 [.ref (100)] h (q_chg (.inl (some (.double (FP.ddiv (FP.i2d (zTs s s.1)) (FP.i2d (nI s.1)))))) (fun h1 => z_X h1 s lc fl ∧ q_zone h h1 100 115)) := by
  obtain ⟨m, hm, em⟩ := g_tsN V
  have h8 := V.1.1
  have e2 := g_ts s s.1 0
  rw [Nat.zero_add] at e2
  have e2 : x_am_meanStrength_25 s.2.2.1 s.2.2.2.1 s.1 0 0 = zTs s s.1 := e2
  obtain ⟨hs, se, sf, s1, nx, kp, rw, ic, fi, q1, q2, s2, ca, cj, co, won, lost, pf, cv, sc, pc, pp, po, vb, oa, ob, w⟩ := X
  refine q_Spec_mono (c_meanStrength (g := g) (d := d) w (by rw [e2, em]; exact fun h0 => z_fpD m hm s.1 (by omega) h0) hd) (fun o h1 hQ => ?_)
  obtain ⟨e, x, y⟩ := hQ
  rw [u_mean s h0] at e
  exact ⟨e, ⟨hs, se, sf, s1, nx, kp, rw, ic, fi, q1, q2, x⟩, y⟩
theorem k_acceptedShare (X : z_X h s lc fl) (V : z_V B s) (h0 : s.1 ≠ 0) (hd : 7 ≤ d) : q_Spec g mX10_acceptedShare d 1 6 [.ref (100)] h (q_chg (.inl (some (.float (FP.fdiv (FP.i2f (z_bc (zAc s))) (FP.i2f (nI s.1)))))) (fun h1 => z_X h1 s lc fl ∧ q_zone h h1 100 115)) := by
  obtain ⟨m, hm, em⟩ := g_accN V
  have h8 := V.1.1
  obtain ⟨hs, se, sf, s1, nx, kp, rw, ic, fi, q1, q2, s2, ca, cj, co, won, lost, pf, cv, sc, pc, pp, po, vb, oa, ob, w⟩ := X
  refine q_Spec_mono (c_acceptedShare (g := g) (d := d) w (by rw [u_accC V, em]; exact fun h0 => (z_fpF m hm s.1 (by omega) h0).1) hd) (fun o h1 hQ => ?_)
  obtain ⟨e, x, y⟩ := hQ
  rw [u_share V h0] at e
  exact ⟨e, ⟨hs, se, sf, s1, nx, kp, rw, ic, fi, q1, q2, x⟩, y⟩
theorem w_attackerAt (X : z_X h s lc fl) (V : z_V B s) {v : Nat} (hv : v < s.1) {u : Nat} (hu : u < s.1) (hb : z_bi (s.2.2.2.2.2.1 v) u = true) (hd : 9 ≤ d) : q_Spec g mL_attackerAt d 2 12 [.ref 100, .int (s.2.1 v), .int (nI (z_cn (s.2.2.2.2.2.1 v) u))] h (z_told h s lc fl (s.2.1 u)) := by
  obtain ⟨fs, hr⟩ := X.obj
  exact q_Spec_mono (e_L_attackerAt (dd := d - 1) hr (Or.inl ⟨_, rfl⟩) (by omega) (k_attackerAt (d := d - 1) X V hv hu hb (by omega))) (fun o h1 hQ => ⟨hQ.1, hQ.2⟩)
theorem w_attackerAtN (X : z_X h s lc fl) (V : z_V B s) {v : Nat} (hv : v < s.1) (hd : 9 ≤ d) : q_Spec g mL_attackerAt d 2 12 [.ref 100, .int (s.2.1 v), .int (nI (z_cn (s.2.2.2.2.2.1 v) s.1))] h (z_told h s lc fl (-25000)) := by
  obtain ⟨fs, hr⟩ := X.obj
  exact q_Spec_mono (e_L_attackerAt (dd := d - 1) hr (Or.inr (Or.inr rfl)) (by omega) (k_attackerAtN (d := d - 1) X V hv (by omega))) (fun o h1 hQ => ⟨hQ.1, hQ.2⟩)
theorem w_statusAfter (X : z_X h s lc fl) (V : z_V B s) {v : Nat} (hv : v < s.1) (hd : 9 ≤ d) : q_Spec g mL_statusAfter d 2 12 [.ref 100, .int (s.2.1 v), .int 0] h (z_told h s lc fl (zLt s v)) := by
  obtain ⟨fs, hr⟩ := X.obj
  exact q_Spec_mono (e_L_statusAfter (dd := d - 1) hr (Or.inl ⟨_, rfl⟩) (by omega) (k_statusAfter (d := d - 1) X V hv (by omega))) (fun o h1 hQ => ⟨hQ.1, hQ.2⟩)
theorem w_argumentByStrengthN (X : z_X h s lc fl) (V : z_V B s)  (hd : 9 ≤ d) : q_Spec g mL_argumentByStrength d 1 6 [.ref 100, .int (nI s.1)] h (z_told h s lc fl (-30000)) := by
  obtain ⟨fs, hr⟩ := X.obj
  exact q_Spec_mono (e_L_argumentByStrength (dd := d - 1) hr (Or.inr rfl) (by omega) (k_argumentByStrengthN (d := d - 1) X V (by omega))) (fun o h1 hQ => ⟨hQ.1, hQ.2⟩)
theorem w_moveAtN (X : z_X h s lc fl) (V : z_V B s)  (hd : 9 ≤ d) : q_Spec g mL_moveAt d 1 6 [.ref 100, .int (nI s.2.2.2.2.2.2.2.2.1)] h (z_told h s lc fl (-25000)) := by
  obtain ⟨fs, hr⟩ := X.obj
  exact q_Spec_mono (e_L_moveAt (dd := d - 1) hr (Or.inr rfl) (by omega) (k_moveAtN (d := d - 1) X V (by omega))) (fun o h1 hQ => ⟨hQ.1, hQ.2⟩)
theorem w_formatDialogue0 (X : z_X h s lc fl) (V : z_V B s) (hB : B ≤ 10000) (hm : s.2.2.2.2.2.2.2.2.1 = 0) (hd : 9 ≤ d) : q_Spec g mL_formatDialogue d 38 10588 [.ref 100] h (z_told h s lc fl (-30000)) := by
  obtain ⟨fs, hr⟩ := X.obj
  exact q_Spec_mono (e_L_formatDialogue (dd := d - 1) hr (Or.inr rfl) (by omega) (k_formatDialogue0 (d := d - 1) X V hB hm (by omega))) (fun o h1 hQ => ⟨hQ.1, hQ.2⟩)
theorem w_isSuccessful (X : z_X h s lc fl) (V : z_V B s) {v : Nat} (hv : v < s.1) {u : Nat} (hu : u < s.1) (hd : 9 ≤ d) : q_Spec g mL_isSuccessful d 3 18 [.ref 100, .int (s.2.1 v), .int (s.2.1 u)] h (z_told h s lc fl (if z_has (s.2.2.2.2.1 v) u then z_b (z_has (s.2.2.2.2.2.1 u) v) else -30000)) := by
  obtain ⟨fs, hr⟩ := X.obj
  have sp := k_isSuccessful (g := g) (d := d - 1) X V hv hu (by omega)
  by_cases c : z_has (s.2.2.2.2.1 v) u = true
  · rw [if_pos c] at sp ⊢
    exact q_Spec_mono (e_L_isSuccessful (dd := d - 1) hr (Or.inl ⟨_, rfl⟩) (by omega) sp) (fun o h1 hQ => ⟨hQ.1, hQ.2⟩)
  · rw [if_neg c] at sp ⊢
    exact q_Spec_mono (e_L_isSuccessful (dd := d - 1) hr (Or.inr rfl) (by omega) sp) (fun o h1 hQ => ⟨hQ.1, hQ.2⟩)
theorem w_roundOf (X : z_X h s lc fl) (V : z_V B s) {v : Nat} (hv : v < s.1) (hd : 9 ≤ d) : q_Spec g mL_roundOf d 2 12 [.ref 100, .int (s.2.1 v)] h (z_told h s lc fl (if zLt s v = 117 then -30000 else zRd s v)) := by
  obtain ⟨fs, hr⟩ := X.obj
  have sp := k_roundOf (g := g) (d := d - 1) X V hv (by omega)
  by_cases c : zLt s v = 117
  · rw [if_pos c] at sp ⊢
    exact q_Spec_mono (e_L_roundOf (dd := d - 1) hr (Or.inr rfl) (by omega) sp) (fun o h1 hQ => ⟨hQ.1, hQ.2⟩)
  · rw [if_neg c] at sp ⊢
    exact q_Spec_mono (e_L_roundOf (dd := d - 1) hr (Or.inl ⟨_, rfl⟩) (by omega) sp) (fun o h1 hQ => ⟨hQ.1, hQ.2⟩)
theorem w_canMove (X : z_X h s lc fl) (V : z_V B s) (xa : Int32) (hd : 10 ≤ d) : q_Spec g mL_canMove d 3 18 [.ref 100, .int xa] h (fun o h1 => ∃ w : Int32, o = .inl (some (.int w)) ∧ z_X h1 s lc fl ∧ q_zone h h1 100 115) := by
  obtain ⟨fs, hr⟩ := X.obj
  obtain ⟨hs, se, sf, s1, nx, kp, rw, ic, fi, q1, q2, s2, ca, cj, co, won, lost, pf, cv, sc, pc, pp, po, vb, oa, ob, w⟩ := X
  refine q_Spec_mono (e_L_canMove (dd := d - 1) hr ?_ (by omega) (c_canMove (g := g) (d := d - 1) w xa (by omega))) (fun o h1 hQ => ⟨_, hQ.1, ⟨hs, se, sf, s1, nx, kp, rw, ic, fi, q1, q2, hQ.2.1⟩, hQ.2.2⟩)
  rcases u_can V xa with ⟨v, e⟩ | e
  · exact Or.inl ⟨v, by rw [e]; rfl⟩
  · exact Or.inr (by rw [e]; rfl)
/-! the law's small methods -/
/-- a number of the script, or the one that stands for it behind the script's end -/
def z_cel (g : q_G) (k : Nat) : Int32 := if k < g.2.2.2.2.2.1 then g.2.2.2.2.2.2 k else 7919 * nI k + 12
theorem e_cell {k : Nat} (ho : q_isold g 0) (hN : g.2.2.2.2.2.1 < 2 ^ 31) (hk : k < 2 ^ 31) (hd : 0 ≤ d) : q_Spec g mL_cell d 0 0 [.ref 0, .int (nI k)] h (q_ret (some (.int (z_cel g k))) h) := by
  refine q_enter (by decide +kernel) rfl rfl (Nat.le_of_ble_eq_true rfl) (fun hz => ?_)
  change q_W _ _ _ _ _ _ _ _ _ [.ref 0, .int (nI k)] [] _
  refine q_iload_n dL_cell_0 rfl ?_
  refine q_aload_nO ho dL_cell_1 rfl ?_
  refine q_tlen (by decide) dL_cell_2 (rfl : q_ar g 0 = _) ?_
  change q_W _ _ _ _ _ _ _ _ _ _ [.int (nI g.2.2.2.2.2.1), .int (nI k)] _
  refine q_icmp_ge 12 dL_cell_3 (by decide) (fun b => ?_) (fun b => ?_)
  · have b := (nI_leI hN hk).mp b
    refine q_sipush (v := 7919) dL_cell_12 rfl ?_
    refine q_iload_n dL_cell_15 rfl ?_
    refine q_imul dL_cell_16 ?_
    refine q_bipush (v := 12) dL_cell_17 rfl ?_
    refine q_iadd dL_cell_19 ?_
    refine q_ireturn dL_cell_20 rfl rfl (by omega) (by omega) ⟨?_, rfl⟩
    unfold z_cel
    rw [if_neg (by omega)]
  · have b : ¬ g.2.2.2.2.2.1 ≤ k := fun q => b ((nI_leI hN hk).mpr q)
    refine q_aload_nO ho dL_cell_6 rfl ?_
    refine q_iload_n dL_cell_7 rfl ?_
    refine q_taldIN (by decide) dL_cell_8 (rfl : q_ar g 0 = _) (by omega) (by omega) ?_
    refine q_goto 20 dL_cell_9 (by decide) ?_
    refine q_ireturn dL_cell_20 rfl rfl (by omega) (by omega) ⟨?_, rfl⟩
    unfold z_cel
    rw [if_pos (by omega)]
theorem z_ush (x : Int32) : ∃ m, m < 2 ^ 29 ∧ (x.toUInt32 >>> ((3 : Int32).toUInt32 &&& Int32.toUInt32 31)).toInt32 = nI m := by
  refine ⟨x.toUInt32.toNat >>> 3, ?_, ?_⟩
  · rw [Nat.shiftRight_eq_div_pow]
    have := x.toUInt32.toNat_lt
    omega
  · apply Int32.toBitVec_inj.mp
    apply BitVec.eq_of_toNat_eq
    show _ = (BitVec.ofNat 32 _).toNat
    rw [BitVec.toNat_ofNat, Nat.mod_eq_of_lt (by rw [Nat.shiftRight_eq_div_pow]; have := x.toUInt32.toNat_lt; omega)]
    rfl
/-- some number under n -/
theorem e_some {k n : Nat} (ho : q_isold g 0) (hN : g.2.2.2.2.2.1 < 2 ^ 31) (hk : k < 2 ^ 31) (hn : 0 < n) (hn2 : n < 2 ^ 31) (hd : 1 ≤ d) : ∃ m, m < n ∧ q_Spec g mL_some d 0 0 [.ref 0, .int (nI k), .int (nI n)] h (q_ret (some (.int (nI m))) h) := by
  obtain ⟨m, hm, em⟩ := z_ush (z_cel g k)
  refine ⟨m % n, Nat.mod_lt _ hn, ?_⟩
  refine q_enter (by decide +kernel) rfl rfl (Nat.le_of_ble_eq_true rfl) (fun hz => ?_)
  change q_W _ _ _ _ _ _ _ _ _ [.ref 0, .int (nI k), .int (nI n)] [] _
  refine q_aload_nO ho dL_some_0 rfl ?_
  refine q_iload_n dL_some_1 rfl ?_
  refine q_invS (mc' := 0) (ms' := 0) (d' := d - 1) (as := [.ref 0, .int (nI k)]) dL_some_2 kM_L_cell kL_L_7 kT_L_cell rfl rfl rfl (Nat.le_of_ble_eq_true rfl) (by omega) (by decide) (by omega) (by omega) (e_cell (d := d - 1) ho hN hk (by omega)) (q_kR ?_) q_xR
  change q_W _ _ _ _ _ _ _ _ 5 [.ref 0, .int (nI k), .int (nI n)] [.int (z_cel g k)] _
  refine q_iconst (v := 3) dL_some_5 rfl ?_
  refine q_iushr dL_some_6 em ?_
  refine q_iload_n dL_some_7 rfl ?_
  refine q_iremN (a := m) (b := n) (by omega) hn hn2 dL_some_8 ?_
  exact q_ireturn dL_some_9 rfl rfl (by omega) (by omega) ⟨rfl, rfl⟩
theorem l_isLine {mc ms : Nat} {Q : q_O → q_H → Prop} {h0 : q_H} {r v n : Nat} {fs : Nat → Int32} (hd : 8 ≤ d) (heq : n = lc ∧ ∀ j, j < lc → fl j = fs j) (hQ : ∀ h1, z_X h1 s lc fl → q_zone h0 h1 100 115 → Q (.inl (some (.int 1))) h1) : ∀ k i kc ks h, i + k = lc → z_X h s lc fl → z_LS h r v n fs → q_zone h0 h 100 115 → kc + k ≤ mc → ks + 6 * k ≤ ms → q_W g mL_isLine d mc ms Q kc ks 12 [.ref 100, .int (nI lc), .ref r, .int (nI i)] [] h := by
  intro k
  induction k with
  | zero =>
    intro i kc ks h hi X S z hc hs
    have hl := X.lineB
    refine q_iload_n dL_isLine_12 rfl ?_
    refine q_iload_n dL_isLine_13 rfl ?_
    refine q_icmp_ge 38 dL_isLine_14 (by decide) (fun b => ?_) (fun b => absurd ((nI_leI (by omega) (by omega)).mpr (by omega)) b)
    refine q_iconst (v := 1) dL_isLine_38 rfl ?_
    exact q_ireturn dL_isLine_39 rfl rfl (by omega) (by omega) (hQ h X z)
  | succ k ih =>
    intro i kc ks h hi X S z hc hs
    have hl := X.lineB
    obtain ⟨fo, ho⟩ := X.obj
    refine q_iload_n dL_isLine_12 rfl ?_
    refine q_iload_n dL_isLine_13 rfl ?_
    refine q_icmp_ge 38 dL_isLine_14 (by decide) (fun b => absurd ((nI_leI (by omega) (by omega)).mp b) (by omega)) (fun b => ?_)
    refine q_aload_n (by decide) dL_isLine_17 rfl ?_
    refine q_iload_n dL_isLine_18 rfl ?_
    refine q_invV (mc' := 1) (ms' := 6) (d' := d - 1) (as := [.int (nI i)]) dL_isLine_19 kM_X10_lineChar kL_L_133 kI_X10_lineChar kS_X10_lineChar rfl (kC_X10.1) ho rfl rfl (Nat.le_of_ble_eq_true rfl) (by omega) (by decide) (by omega) (by omega) (k_lineChar (d := d - 1) X (by omega) (by omega)) (q_kC (fun h1 hB => ?_)) q_xC
    obtain ⟨X1, z1⟩ := hB
    have S1 := S.zone z1
    change q_W _ _ _ _ _ _ _ _ 22 [.ref 100, .int (nI lc), .ref r, .int (nI i)] [.int (fl i)] _
    refine q_aload_nS S1.lo dL_isLine_22 rfl ?_
    refine q_iload_n dL_isLine_23 rfl ?_
    refine q_invStr S1.1.isS (mc' := 0) (ms' := 0) (d' := d - 1) (as := [.int (nI i)]) dL_isLine_24 kM_J0_charAt_5068e kL_L_137 kI_J0_charAt_5068e kS_J0_charAt_5068e rfl rfl rfl (Nat.le_of_ble_eq_true rfl) (by omega) (by decide) (by omega) (by omega) (e_ScharAt (d := d - 1) S1.1 (by omega) (by omega)) (q_kR ?_) q_xR
    change q_W _ _ _ _ _ _ _ _ 27 [.ref 100, .int (nI lc), .ref r, .int (nI i)] [.int (fs i), .int (fl i)] _
    refine q_icmp_eq 32 dL_isLine_27 (by decide) (fun b => ?_) (fun b => absurd (heq.2 i (by omega)) b)
    refine q_iinc (x := nI i) (v := nI (i + 1)) dL_isLine_32 rfl (nI_add _ 1) rfl ?_
    change q_W _ _ _ _ _ _ _ _ _ [.ref 100, .int (nI lc), .ref r, .int (nI (i + 1))] [] _
    refine q_goto 12 dL_isLine_35 (by decide) ?_
    exact ih (i + 1) _ _ h1 (by omega) X1 S1 (z.trans z1) (by omega) (by omega)
theorem e_isLine {r v n : Nat} {fs : Nat → Int32} {L : List Int32} (X : z_X h s lc fl) (S : z_LS h r v n fs) (hx : z_tx lc fl L) (hy : z_tx n fs L) (hd : 9 ≤ d) : q_Spec g mL_isLine d 142 852 [.ref 100, .int (nI lc), .ref r] h (z_told h s lc fl 1) := by
  have hl := X.lineB
  obtain ⟨e1, e2⟩ := tx_eq hx hy
  refine q_enter (by decide +kernel) rfl rfl (Nat.le_of_ble_eq_true rfl) (fun hz => ?_)
  change q_W _ _ _ _ _ _ _ _ _ [.ref 100, .int (nI lc), .ref r, q_u] [] _
  refine q_iload_n dL_isLine_0 rfl ?_
  refine q_aload_nS S.lo dL_isLine_1 rfl ?_
  refine q_invStr S.1.isS (mc' := 0) (ms' := 0) (d' := d - 1) (as := []) dL_isLine_2 kM_J0_length_8abf5 kL_L_128 kI_J0_length_8abf5 kS_J0_length_8abf5 rfl rfl rfl (Nat.le_of_ble_eq_true rfl) (by omega) (by decide) (by omega) (by omega) (e_Slen (d := d - 1) S.1 (by omega)) (q_kR ?_) q_xR
  change q_W _ _ _ _ _ _ _ _ 5 [.ref 100, .int (nI lc), .ref r, q_u] [.int (nI n), .int (nI lc)] _
  refine q_icmp_eq 10 dL_isLine_5 (by decide) (fun b => ?_) (fun b => absurd (by rw [e1]) b)
  refine q_iconst (v := 0) dL_isLine_10 rfl ?_
  refine q_istore_n dL_isLine_11 (by decide) rfl ?_
  change q_W _ _ _ _ _ _ _ _ _ [.ref 100, .int (nI lc), .ref r, .int (nI 0)] [] _
  exact l_isLine (by omega) ⟨e1.symm, e2⟩ (fun h1 X1 z1 => ⟨rfl, X1, z1⟩) lc 0 0 0 h (by omega) X S q_zone.rfl' (by omega) (by omega)
end WQ
