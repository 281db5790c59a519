/-! the rest of the answers; the wrapped ones -/
def zTs (s : ZS) : Nat → Int32
  | 0 => 0
  | k + 1 => zTs s k + zStr s k
def zWs (s : ZS) : Nat → Nat
  | 0 => 0
  | k + 1 => zWs s k + z_cn (s.2.2.2.2.2.1 k) s.1
def zCl (s : ZS) (k : Nat) : Nat → Nat
  | 0 => 0
  | j + 1 => zCl s k j + if z_bi (s.2.2.2.2.1 j) k = true then 1 else 0
def zAs (s : ZS) : Nat → Nat
  | 0 => 0
  | k + 1 => zAs s k + zCl s k s.1
theorem z_fpD2 : ∀ m, m < 73 → ∀ n, n < 9 → n ≠ 0 → Op.cmpValue (FP.dcmp (FP.ddiv (FP.i2d (nI m)) (FP.i2d (nI n))) (FP.ddiv (FP.i2d (nI m)) (FP.i2d (nI n)))) .l = 0 := by decide +kernel
theorem z_fpF2 : ∀ m, m < 9 → ∀ n, n < 9 → n ≠ 0 → Op.cmpValue (FP.fcmp (FP.fdiv (FP.i2f (nI m)) (FP.i2f (nI n))) (FP.fdiv (FP.i2f (nI m)) (FP.i2f (nI n)))) .l = 0 := by decide +kernel
section MORE
variable {B : Nat} {s : ZS}
theorem g_ts (s : ZS) : ∀ r k, x_am_meanStrength_25 s.2.2.1 s.2.2.2.1 r k (zTs s k) = zTs s (k + r) := by
  intro r
  induction r with
  | zero =>
    intro k
    rfl
  | succ r ih =>
    intro k
    have e : k + (r + 1) = k + 1 + r := by omega
    rw [e]
    exact ih (k + 1)
theorem g_tsN (V : z_V B s) : ∃ m, m < 73 ∧ zTs s s.1 = nI m := by
  obtain ⟨m, hm, e1, -⟩ := z_mean4 V.1 V.R s.1 0 0 (by omega) (by omega)
  have h8 := V.1.1
  have e2 := g_ts s s.1 0
  rw [Nat.zero_add] at e2
  exact ⟨m, by omega, e2.symm.trans e1⟩
theorem u_mean (s : ZS) (h0 : s.1 ≠ 0) : x_am_meanStrength s.1 s.2.2.1 s.2.2.2.1 = .inl (FP.ddiv (FP.i2d (zTs s s.1)) (FP.i2d (nI s.1))) := by
  have e2 := g_ts s s.1 0
  rw [Nat.zero_add] at e2
  unfold x_am_meanStrength
  rw [if_neg h0]
  show Sum.inl (FP.ddiv (FP.i2d (x_am_meanStrength_25 s.2.2.1 s.2.2.2.1 s.1 0 (zTs s 0))) (FP.i2d (nI s.1))) = _
  rw [e2]
theorem g_accN (V : z_V B s) : ∃ m, m < 9 ∧ z_bc (zAc s) = nI m := by
  have h := z_subL (g_sub V)
  obtain ⟨m, hm, em⟩ := z_sub8 V.1.1 h
  refine ⟨z_cn (nI m) 8, ?_, by rw [em]; exact z_bccn m hm⟩
  have := z_cn_le (nI m) 8
  omega
theorem u_cons (V : z_V B s) (co won lost : Nat → Int32) : (x_am_isConsistent s.1 s.2.2.2.2.2.1 co won lost).1 = true := by
  have hA := g_att V
  obtain ⟨l1, l2, l3, l4⟩ := z_labels V.1 V.R co co
  have e1 : (x_am_labelsAgreeWithGame s.1 s.2.2.2.2.2.1 co won lost).1 = true := by
    unfold x_am_labelsAgreeWithGame
    generalize x_lb_give co s.1 s.2.2.2.2.2.1 = g at l1 l2 l4
    obtain ⟨ga, gj, gr⟩ := g
    dsimp only at l1 l2 ⊢
    obtain ⟨l, w, e⟩ := z_agree13 V.1 V.R co (rj := gj) (co := gr) l1 s.1 0 lost won (by omega)
    rw [e]
  have e2 : x_am_stableCount s.1 s.2.2.2.2.2.1 = x_am_stableCountByLabels s.1 s.2.2.2.2.2.1 := (z_stabs V.1.1 hA).trans (z_stlab V.1.1 hA).symm
  have e3 : x_am_hasCycle s.1 s.2.2.2.2.2.1 = x_am_hasCycleBySearch s.1 s.2.2.2.2.2.1 := by
    obtain ⟨c1, c2⟩ := z_cyc V.1.1 hA (z_attS V.1)
    exact c1.trans c2.symm
  unfold x_am_isConsistent
  generalize x_am_labelsAgreeWithGame s.1 s.2.2.2.2.2.1 co won lost = p at e1
  obtain ⟨p1, p2⟩ := p
  dsimp only at e1
  subst e1
  dsimp only
  rw [if_pos rfl, if_pos e2, if_pos e3]
/-- bits under n are all the bits -/
theorem z_cnTop {x : Int32} {n : Nat} (hx : ∀ j, j < 32 → z_bi x j = true → j < n) : ∀ m, n ≤ m → m ≤ 32 → z_cn x m = z_cn x n := by
  intro m
  induction m with
  | zero =>
    intro h1 _
    have e : n = 0 := by omega
    subst e
    rfl
  | succ m ih =>
    intro h1 h2
    by_cases e : n = m + 1
    · rw [e]
    · have i := ih (by omega) (by omega)
      show z_cn x m + (if z_bi x m then 1 else 0) = _
      rw [if_neg (fun q => by have := hx m (by omega) q; omega), i]
      rfl
theorem g_bcA (V : z_V B s) {v : Nat} (hv : v < s.1) : z_bc (s.2.2.2.2.2.1 v) = nI (z_cn (s.2.2.2.2.2.1 v) s.1) := by
  obtain ⟨m, hm, e⟩ := V.1.att8 hv
  have h8 := V.1.1
  rw [← z_cnTop (x := s.2.2.2.2.2.1 v) (n := s.1) (fun j hj q => z_attlt V.1 hv hj q) 8 h8 (by omega), e]
  exact z_bccn m hm
theorem g_sc (V : z_V B s) : ∀ r k, k + r = s.1 → x_am_successfulCount_4 s.2.2.2.2.2.1 r k (nI (zWs s k)) = nI (zWs s s.1) := by
  intro r
  induction r with
  | zero =>
    intro k hk
    have e : k = s.1 := by omega
    subst e
    rfl
  | succ r ih =>
    intro k hk
    have i := ih (k + 1) (by omega)
    show x_am_successfulCount_4 s.2.2.2.2.2.1 r (k + 1) (nI (zWs s k) + z_bc (s.2.2.2.2.2.1 k)) = _
    rw [g_bcA V (by omega : k < s.1), nI_add]
    exact i
theorem u_sc (V : z_V B s) : x_am_successfulCount s.1 s.2.2.2.2.2.1 = nI (zWs s s.1) := g_sc V s.1 0 (by omega)
/-- rows and columns -/
theorem g_swap (tg : Nat → Int32) : ∀ m n, (Nat.rec 0 (fun k A => A + Nat.rec 0 (fun j c => c + if z_bi (tg j) k = true then 1 else 0) n) m : Nat) = Nat.rec 0 (fun j c => c + z_cn (tg j) m) n := by
  intro m
  induction m with
  | zero =>
    intro n
    induction n with
    | zero => rfl
    | succ n ih =>
      show 0 = (Nat.rec 0 (fun j c => c + z_cn (tg j) 0) n : Nat) + 0
      rw [← ih]
      rfl
  | succ m ih =>
    intro n
    have e := ih n
    show (Nat.rec 0 (fun k A => A + Nat.rec 0 (fun j c => c + if z_bi (tg j) k = true then 1 else 0) n) m : Nat) + Nat.rec 0 (fun j c => c + if z_bi (tg j) m = true then 1 else 0) n = _
    rw [e]
    clear e ih
    induction n with
    | zero => rfl
    | succ n ih =>
      show (Nat.rec 0 (fun j c => c + z_cn (tg j) m) n : Nat) + z_cn (tg n) m + ((Nat.rec 0 (fun j c => c + if z_bi (tg j) m = true then 1 else 0) n : Nat) + if z_bi (tg n) m = true then 1 else 0) = (Nat.rec 0 (fun j c => c + z_cn (tg j) (m + 1)) n : Nat) + (z_cn (tg n) m + if z_bi (tg n) m then 1 else 0)
      rw [← ih]
      omega
theorem g_as (s : ZS) : ∀ m, zAs s m = Nat.rec 0 (fun k A => A + Nat.rec 0 (fun j c => c + if z_bi (s.2.2.2.2.1 j) k = true then 1 else 0) s.1) m := by
  have hcl : ∀ k n, zCl s k n = Nat.rec 0 (fun j c => c + if z_bi (s.2.2.2.2.1 j) k = true then 1 else 0) n := by
    intro k n
    induction n with
    | zero => rfl
    | succ n ih =>
      show zCl s k n + _ = _
      rw [ih]
  intro m
  induction m with
  | zero => rfl
  | succ m ih =>
    show zAs s m + zCl s m s.1 = _
    rw [ih, hcl]
theorem g_ct (tg : Nat → Int32) : ∀ n, z_ct tg n = Nat.rec 0 (fun j c => c + z_cn (tg j) 8) n := by
  intro n
  induction n with
  | zero => rfl
  | succ n ih =>
    show z_ct tg n + z_cn (tg n) 8 = _
    rw [ih]
theorem u_atk (V : z_V B s) : x_st_countAttacks s.1 s.2.2.2.2.1 = nI (zAs s s.1) := by
  have h8 := V.1.1
  rw [z_cntA (fun j hj => V.1.tg hj), g_as, g_swap, g_ct]
  congr 1
  have key : ∀ n, n ≤ s.1 → (Nat.rec 0 (fun j c => c + z_cn (s.2.2.2.2.1 j) 8) n : Nat) = Nat.rec 0 (fun j c => c + z_cn (s.2.2.2.2.1 j) s.1) n := by
    intro n
    induction n with
    | zero =>
      intro _
      rfl
    | succ n ih =>
      intro hn
      have i := ih (by omega)
      show (Nat.rec 0 (fun j c => c + z_cn (s.2.2.2.2.1 j) 8) n : Nat) + z_cn (s.2.2.2.2.1 n) 8 = (Nat.rec 0 (fun j c => c + z_cn (s.2.2.2.2.1 j) s.1) n : Nat) + z_cn (s.2.2.2.2.1 n) s.1
      rw [i, z_cnTop (x := s.2.2.2.2.1 n) (n := s.1) (fun j hj q => by
        obtain ⟨m, hm, e⟩ := V.1.2.2.2.2.2.2.1 n (by omega)
        rw [e, z_bitb hj] at q
        exact z_bitlt hm q) 8 h8 (by omega)]
  exact key s.1 (Nat.le_refl _)
end MORE
