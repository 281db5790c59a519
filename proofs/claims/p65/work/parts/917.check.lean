/-! the law's turn: what it asks of every argument behind the sets -/
theorem z_dlt : ∀ a, a < 10 → ∀ b, b < 10 → (b < a → ¬ nI a - nI b < 0 ∧ ¬ nI a - nI b = 0) ∧ (a = b → nI a - nI b = 0) := by decide +kernel
section CHK
variable {g : q_G} {d mc ms : Nat} {Q : q_O → q_H → Prop} {s : ZS} {B : Nat}
theorem r_eq01 {kc ks pc : Nat} {ls stk : List Value} {h : q_H} {x y : Int32} (d0 : decode mL_law.2.1 pc = .ok (.if_icmp .ne 7, 3)) (d1 : decode mL_law.2.1 (pc + 3) = .ok (.iconst 1, 1)) (d2 : decode mL_law.2.1 (pc + 4) = .ok (.goto 4, 3)) (d3 : decode mL_law.2.1 (pc + 7) = .ok (.iconst 0, 1))
    (kk : q_W g mL_law d mc ms Q kc ks (pc + 8) ls (.int (if x = y then 1 else 0) :: stk) h) : q_W g mL_law d mc ms Q kc ks pc ls (.int y :: .int x :: stk) h := by
  refine q_icmp_ne (pc + 7) d0 (by omega) (fun b => ?_) (fun b => ?_)
  · refine q_iconst (v := 0) d3 rfl ?_
    rw [if_neg b] at kk
    exact kk
  · refine q_iconst (v := 1) d1 rfl ?_
    refine q_goto (pc + 8) d2 (by omega) ?_
    rw [if_pos b] at kk
    exact kk
theorem g_gm {v : Nat} (hv : v < 32) : (z_b (z_bi (zAc s) v) = if zLt s v = 97 then 1 else 0) ∧ ¬ z_b (!z_bi (zAc s) v) = if zLt s v = 97 then 1 else 0 := by
  cases e : z_bi (zAc s) v with
  | true =>
    rw [g_ltA hv e]
    exact ⟨rfl, by decide⟩
  | false =>
    cases e2 : z_bi (zRj s) v with
    | true =>
      rw [g_ltR hv e e2]
      exact ⟨rfl, by decide⟩
    | false =>
      rw [g_ltU hv e e2]
      exact ⟨rfl, by decide⟩
set_option maxRecDepth 100000 in
set_option maxHeartbeats 8000000 in
theorem l_ck5 {t na nb a9 p u ri rj rg m1 m2 pv KC KS : Nat} {a8 st gr tg : Int32} {v lc : Nat} {sh : Int32} {fl : Nat → Int32} (V : z_V B s) (hB9 : B < 2 ^ 31) (hv : v < s.1) (hd : 30 ≤ d) (hKC : KC ≤ mc) (hKS : KS ≤ ms)
    (K : ∀ kc ks h, z_X h s lc fl → z_arr 0 h ri s.1 s.2.1 → z_arr 0 h rj s.1 s.2.2.2.2.2.1 → kc ≤ KC → ks ≤ KS → q_W g mL_law d mc ms Q kc ks 1262 [.ref 0, .ref 100, .int (nI t), .int (nI s.1), .int (nI na), .int (nI nb), .int (nI p), .int (nI u), .int a8, .int (nI a9), .ref ri, .ref rj, .int (zAc s), .int (zRj s), .int st, .int (nI pv), .int gr, .int (zCd s (2 ^ s.1)), .int (zCt s (2 ^ s.1)), .ref rg, .int (nI m1), .int (nI m2), .int tg, .int (nI v), q_u, q_u, q_u, q_u, q_u, q_u, q_u, q_u] [] h) : ∀ kc ks h, z_X h s lc fl → z_arr 0 h ri s.1 s.2.1 → z_arr 0 h rj s.1 s.2.2.2.2.2.1 → kc + 6 ≤ KC → ks + 36 ≤ KS → q_W g mL_law d mc ms Q kc ks 1177 [.ref 0, .ref 100, .int (nI t), .int (nI s.1), .int (nI na), .int (nI nb), .int (nI p), .int (nI u), .int a8, .int (nI a9), .ref ri, .ref rj, .int (zAc s), .int (zRj s), .int st, .int (nI pv), .int gr, .int (zCd s (2 ^ s.1)), .int (zCt s (2 ^ s.1)), .ref rg, .int (nI m1), .int (nI m2), .int tg, .int (nI v), .int (s.2.1 v), .int (if zLt s v = 117 then (-30000 : Int32) else zRd s v), .int (zLt s v), .int sh, q_u, q_u, q_u, q_u] [] h := by
  intro kc ks h X A B hkc hks
  have h8 := V.1.1
  refine q_iload dL_law_1177 rfl ?_
  refine q_if_ne 1185 dL_law_1179 (by decide) (fun b => ?_) (fun b => ?_)
  · have hv1 : 1 ≤ v := by
        refine Nat.pos_of_ne_zero (fun c => b ?_)
        rw [c]
        rfl
    obtain ⟨va, hva, ra⟩ := g_rkS V (r := v - 1) (by omega)
    obtain ⟨vb, hvb, rb⟩ := g_rkS V (r := v) hv
    obtain ⟨a, b, ca, cb, a1, b1, ca1, cb1, e1, e2, e3, e4, hor⟩ := g_ord V hva hvb ra rb hv1
    refine q_aload_n (by decide) dL_law_1185 rfl ?_
    refine q_iload dL_law_1186 rfl ?_
    refine q_iconst (v := 1) dL_law_1188 rfl ?_
    refine q_isubN (a := v) (b := 1) (by omega) dL_law_1189 ?_
    obtain ⟨fo1, ho1⟩ := X.obj
    refine q_invV (mc' := 1) (ms' := 6) (d' := d - 1) (as := [.int (nI (v - 1))]) dL_law_1190 kM_X10_argumentByStrength kL_L_70 kI_X10_argumentByStrength kS_X10_argumentByStrength rfl (kC_X10.1) ho1 rfl rfl (Nat.le_of_ble_eq_true rfl) (by omega) (by decide) (by omega) (by omega) (k_argumentByStrength (d := d - 1) X V hva ra (by omega)) (q_kC (fun h1 hB => ?_)) q_xC
    obtain ⟨X1, z_1⟩ := hB
    have A_1 := A.zone z_1
    have B_1 := B.zone z_1
    change q_W _ _ _ _ _ _ _ _ 1193 [.ref 0, .ref 100, .int (nI t), .int (nI s.1), .int (nI na), .int (nI nb), .int (nI p), .int (nI u), .int a8, .int (nI a9), .ref ri, .ref rj, .int (zAc s), .int (zRj s), .int st, .int (nI pv), .int gr, .int (zCd s (2 ^ s.1)), .int (zCt s (2 ^ s.1)), .ref rg, .int (nI m1), .int (nI m2), .int tg, .int (nI v), .int (s.2.1 v), .int (if zLt s v = 117 then (-30000 : Int32) else zRd s v), .int (zLt s v), .int sh, q_u, q_u, q_u, q_u] [.int (s.2.1 va)] _
    refine q_istore dL_law_1193 (by decide) rfl ?_
    change q_W _ _ _ _ _ _ _ _ 1195 [.ref 0, .ref 100, .int (nI t), .int (nI s.1), .int (nI na), .int (nI nb), .int (nI p), .int (nI u), .int a8, .int (nI a9), .ref ri, .ref rj, .int (zAc s), .int (zRj s), .int st, .int (nI pv), .int gr, .int (zCd s (2 ^ s.1)), .int (zCt s (2 ^ s.1)), .ref rg, .int (nI m1), .int (nI m2), .int tg, .int (nI v), .int (s.2.1 v), .int (if zLt s v = 117 then (-30000 : Int32) else zRd s v), .int (zLt s v), .int sh, .int (s.2.1 va), q_u, q_u, q_u] [] _
    refine q_aload_n (by decide) dL_law_1195 rfl ?_
    refine q_iload dL_law_1196 rfl ?_
    obtain ⟨fo2, ho2⟩ := X1.obj
    refine q_invV (mc' := 1) (ms' := 6) (d' := d - 1) (as := [.int (nI v)]) dL_law_1198 kM_X10_argumentByStrength kL_L_70 kI_X10_argumentByStrength kS_X10_argumentByStrength rfl (kC_X10.1) ho2 rfl rfl (Nat.le_of_ble_eq_true rfl) (by omega) (by decide) (by omega) (by omega) (k_argumentByStrength (d := d - 1) X1 V hvb rb (by omega)) (q_kC (fun h2 hB => ?_)) q_xC
    obtain ⟨X2, z_2⟩ := hB
    have A_2 := A_1.zone z_2
    have B_2 := B_1.zone z_2
    change q_W _ _ _ _ _ _ _ _ 1201 [.ref 0, .ref 100, .int (nI t), .int (nI s.1), .int (nI na), .int (nI nb), .int (nI p), .int (nI u), .int a8, .int (nI a9), .ref ri, .ref rj, .int (zAc s), .int (zRj s), .int st, .int (nI pv), .int gr, .int (zCd s (2 ^ s.1)), .int (zCt s (2 ^ s.1)), .ref rg, .int (nI m1), .int (nI m2), .int tg, .int (nI v), .int (s.2.1 v), .int (if zLt s v = 117 then (-30000 : Int32) else zRd s v), .int (zLt s v), .int sh, .int (s.2.1 va), q_u, q_u, q_u] [.int (s.2.1 vb)] _
    refine q_istore dL_law_1201 (by decide) rfl ?_
    change q_W _ _ _ _ _ _ _ _ 1203 [.ref 0, .ref 100, .int (nI t), .int (nI s.1), .int (nI na), .int (nI nb), .int (nI p), .int (nI u), .int a8, .int (nI a9), .ref ri, .ref rj, .int (zAc s), .int (zRj s), .int st, .int (nI pv), .int gr, .int (zCd s (2 ^ s.1)), .int (zCt s (2 ^ s.1)), .ref rg, .int (nI m1), .int (nI m2), .int tg, .int (nI v), .int (s.2.1 v), .int (if zLt s v = 117 then (-30000 : Int32) else zRd s v), .int (zLt s v), .int sh, .int (s.2.1 va), .int (s.2.1 vb), q_u, q_u] [] _
    refine q_aload_n (by decide) dL_law_1203 rfl ?_
    refine q_iload dL_law_1204 rfl ?_
    obtain ⟨fo3, ho3⟩ := X2.obj
    refine q_invV (mc' := 1) (ms' := 6) (d' := d - 1) (as := [.int (s.2.1 va)]) dL_law_1206 kM_X10_strengthOf kL_L_148 kI_X10_strengthOf kS_X10_strengthOf rfl (kC_X10.1) ho3 rfl rfl (Nat.le_of_ble_eq_true rfl) (by omega) (by decide) (by omega) (by omega) (k_strengthOf (d := d - 1) X2 V hva (by omega)) (q_kC (fun h3 hB => ?_)) q_xC
    obtain ⟨X3, z_3⟩ := hB
    have A_3 := A_2.zone z_3
    have B_3 := B_2.zone z_3
    change q_W _ _ _ _ _ _ _ _ 1209 [.ref 0, .ref 100, .int (nI t), .int (nI s.1), .int (nI na), .int (nI nb), .int (nI p), .int (nI u), .int a8, .int (nI a9), .ref ri, .ref rj, .int (zAc s), .int (zRj s), .int st, .int (nI pv), .int gr, .int (zCd s (2 ^ s.1)), .int (zCt s (2 ^ s.1)), .ref rg, .int (nI m1), .int (nI m2), .int tg, .int (nI v), .int (s.2.1 v), .int (if zLt s v = 117 then (-30000 : Int32) else zRd s v), .int (zLt s v), .int sh, .int (s.2.1 va), .int (s.2.1 vb), q_u, q_u] [.int (zStr s va)] _
    refine q_aload_n (by decide) dL_law_1209 rfl ?_
    refine q_iload dL_law_1210 rfl ?_
    obtain ⟨fo4, ho4⟩ := X3.obj
    refine q_invV (mc' := 1) (ms' := 6) (d' := d - 1) (as := [.int (s.2.1 vb)]) dL_law_1212 kM_X10_strengthOf kL_L_148 kI_X10_strengthOf kS_X10_strengthOf rfl (kC_X10.1) ho4 rfl rfl (Nat.le_of_ble_eq_true rfl) (by omega) (by decide) (by omega) (by omega) (k_strengthOf (d := d - 1) X3 V hvb (by omega)) (q_kC (fun h4 hB => ?_)) q_xC
    obtain ⟨X4, z_4⟩ := hB
    have A_4 := A_3.zone z_4
    have B_4 := B_3.zone z_4
    change q_W _ _ _ _ _ _ _ _ 1215 [.ref 0, .ref 100, .int (nI t), .int (nI s.1), .int (nI na), .int (nI nb), .int (nI p), .int (nI u), .int a8, .int (nI a9), .ref ri, .ref rj, .int (zAc s), .int (zRj s), .int st, .int (nI pv), .int gr, .int (zCd s (2 ^ s.1)), .int (zCt s (2 ^ s.1)), .ref rg, .int (nI m1), .int (nI m2), .int tg, .int (nI v), .int (s.2.1 v), .int (if zLt s v = 117 then (-30000 : Int32) else zRd s v), .int (zLt s v), .int sh, .int (s.2.1 va), .int (s.2.1 vb), q_u, q_u] [.int (zStr s vb), .int (zStr s va)] _
    refine q_isub dL_law_1215 ?_
    refine q_istore dL_law_1216 (by decide) rfl ?_
    change q_W _ _ _ _ _ _ _ _ 1218 [.ref 0, .ref 100, .int (nI t), .int (nI s.1), .int (nI na), .int (nI nb), .int (nI p), .int (nI u), .int a8, .int (nI a9), .ref ri, .ref rj, .int (zAc s), .int (zRj s), .int st, .int (nI pv), .int gr, .int (zCd s (2 ^ s.1)), .int (zCt s (2 ^ s.1)), .ref rg, .int (nI m1), .int (nI m2), .int tg, .int (nI v), .int (s.2.1 v), .int (if zLt s v = 117 then (-30000 : Int32) else zRd s v), .int (zLt s v), .int sh, .int (s.2.1 va), .int (s.2.1 vb), .int (((zStr s va)) - ((zStr s vb))), q_u] [] _
    refine q_aload_n (by decide) dL_law_1218 rfl ?_
    refine q_iload dL_law_1219 rfl ?_
    obtain ⟨fo5, ho5⟩ := X4.obj
    refine q_invV (mc' := 1) (ms' := 6) (d' := d - 1) (as := [.int (s.2.1 vb)]) dL_law_1221 kM_X10_attackerCount kL_L_187 kI_X10_attackerCount kS_X10_attackerCount rfl (kC_X10.1) ho5 rfl rfl (Nat.le_of_ble_eq_true rfl) (by omega) (by decide) (by omega) (by omega) (k_attackerCount (d := d - 1) X4 V hvb (by omega)) (q_kC (fun h5 hB => ?_)) q_xC
    obtain ⟨X5, z_5⟩ := hB
    have A_5 := A_4.zone z_5
    have B_5 := B_4.zone z_5
    change q_W _ _ _ _ _ _ _ _ 1224 [.ref 0, .ref 100, .int (nI t), .int (nI s.1), .int (nI na), .int (nI nb), .int (nI p), .int (nI u), .int a8, .int (nI a9), .ref ri, .ref rj, .int (zAc s), .int (zRj s), .int st, .int (nI pv), .int gr, .int (zCd s (2 ^ s.1)), .int (zCt s (2 ^ s.1)), .ref rg, .int (nI m1), .int (nI m2), .int tg, .int (nI v), .int (s.2.1 v), .int (if zLt s v = 117 then (-30000 : Int32) else zRd s v), .int (zLt s v), .int sh, .int (s.2.1 va), .int (s.2.1 vb), .int (((zStr s va)) - ((zStr s vb))), q_u] [.int (z_bc (s.2.2.2.2.2.1 vb))] _
    refine q_aload_n (by decide) dL_law_1224 rfl ?_
    refine q_iload dL_law_1225 rfl ?_
    obtain ⟨fo6, ho6⟩ := X5.obj
    refine q_invV (mc' := 1) (ms' := 6) (d' := d - 1) (as := [.int (s.2.1 va)]) dL_law_1227 kM_X10_attackerCount kL_L_187 kI_X10_attackerCount kS_X10_attackerCount rfl (kC_X10.1) ho6 rfl rfl (Nat.le_of_ble_eq_true rfl) (by omega) (by decide) (by omega) (by omega) (k_attackerCount (d := d - 1) X5 V hva (by omega)) (q_kC (fun h6 hB => ?_)) q_xC
    obtain ⟨X6, z_6⟩ := hB
    have A_6 := A_5.zone z_6
    have B_6 := B_5.zone z_6
    change q_W _ _ _ _ _ _ _ _ 1230 [.ref 0, .ref 100, .int (nI t), .int (nI s.1), .int (nI na), .int (nI nb), .int (nI p), .int (nI u), .int a8, .int (nI a9), .ref ri, .ref rj, .int (zAc s), .int (zRj s), .int st, .int (nI pv), .int gr, .int (zCd s (2 ^ s.1)), .int (zCt s (2 ^ s.1)), .ref rg, .int (nI m1), .int (nI m2), .int tg, .int (nI v), .int (s.2.1 v), .int (if zLt s v = 117 then (-30000 : Int32) else zRd s v), .int (zLt s v), .int sh, .int (s.2.1 va), .int (s.2.1 vb), .int (((zStr s va)) - ((zStr s vb))), q_u] [.int (z_bc (s.2.2.2.2.2.1 va)), .int (z_bc (s.2.2.2.2.2.1 vb))] _
    refine q_isub dL_law_1230 ?_
    refine q_istore dL_law_1231 (by decide) rfl ?_
    change q_W _ _ _ _ _ _ _ _ 1233 [.ref 0, .ref 100, .int (nI t), .int (nI s.1), .int (nI na), .int (nI nb), .int (nI p), .int (nI u), .int a8, .int (nI a9), .ref ri, .ref rj, .int (zAc s), .int (zRj s), .int st, .int (nI pv), .int gr, .int (zCd s (2 ^ s.1)), .int (zCt s (2 ^ s.1)), .ref rg, .int (nI m1), .int (nI m2), .int tg, .int (nI v), .int (s.2.1 v), .int (if zLt s v = 117 then (-30000 : Int32) else zRd s v), .int (zLt s v), .int sh, .int (s.2.1 va), .int (s.2.1 vb), .int (((zStr s va)) - ((zStr s vb))), .int (((z_bc (s.2.2.2.2.2.1 vb))) - ((z_bc (s.2.2.2.2.2.1 va))))] [] _
    refine q_iload dL_law_1233 rfl ?_
    have hda := z_dlt a (by omega) b (by omega)
    have hdc := z_dlt cb (by omega) ca (by omega)
    rw [← e1, ← e2] at hda
    rw [← e3, ← e4] at hdc
    rcases hor with q | ⟨q, q2 | ⟨q2, q3⟩⟩
    · refine q_if_lt 1260 dL_law_1235 (by decide) (fun b => absurd b (hda.1 q).1) (fun b => ?_)
      refine q_iload dL_law_1238 rfl ?_
      refine q_if_ne 1262 dL_law_1240 (by decide) (fun b => ?_) (fun b => absurd b (hda.1 q).2)
      refine q_forget 24 ?_
      refine q_forget 25 ?_
      refine q_forget 26 ?_
      refine q_forget 27 ?_
      refine q_forget 28 ?_
      refine q_forget 29 ?_
      refine q_forget 30 ?_
      refine q_forget 31 ?_
      change q_W _ _ _ _ _ _ _ _ 1262 [.ref 0, .ref 100, .int (nI t), .int (nI s.1), .int (nI na), .int (nI nb), .int (nI p), .int (nI u), .int a8, .int (nI a9), .ref ri, .ref rj, .int (zAc s), .int (zRj s), .int st, .int (nI pv), .int gr, .int (zCd s (2 ^ s.1)), .int (zCt s (2 ^ s.1)), .ref rg, .int (nI m1), .int (nI m2), .int tg, .int (nI v), q_u, q_u, q_u, q_u, q_u, q_u, q_u, q_u] [] _
      exact K _ _ h6 X6 A_6 B_6 (by omega) (by omega)
    · refine q_if_lt 1260 dL_law_1235 (by decide) (fun b => absurd b (by rw [hda.2 q]; decide)) (fun b => ?_)
      refine q_iload dL_law_1238 rfl ?_
      refine q_if_ne 1262 dL_law_1240 (by decide) (fun b => absurd (hda.2 q) b) (fun b => ?_)
      refine q_iload dL_law_1243 rfl ?_
      refine q_if_lt 1260 dL_law_1245 (by decide) (fun b => absurd b (hdc.1 q2).1) (fun b => ?_)
      refine q_iload dL_law_1248 rfl ?_
      refine q_if_ne 1262 dL_law_1250 (by decide) (fun b => ?_) (fun b => absurd b (hdc.1 q2).2)
      refine q_forget 24 ?_
      refine q_forget 25 ?_
      refine q_forget 26 ?_
      refine q_forget 27 ?_
      refine q_forget 28 ?_
      refine q_forget 29 ?_
      refine q_forget 30 ?_
      refine q_forget 31 ?_
      change q_W _ _ _ _ _ _ _ _ 1262 [.ref 0, .ref 100, .int (nI t), .int (nI s.1), .int (nI na), .int (nI nb), .int (nI p), .int (nI u), .int a8, .int (nI a9), .ref ri, .ref rj, .int (zAc s), .int (zRj s), .int st, .int (nI pv), .int gr, .int (zCd s (2 ^ s.1)), .int (zCt s (2 ^ s.1)), .ref rg, .int (nI m1), .int (nI m2), .int tg, .int (nI v), q_u, q_u, q_u, q_u, q_u, q_u, q_u, q_u] [] _
      exact K _ _ h6 X6 A_6 B_6 (by omega) (by omega)
    · refine q_if_lt 1260 dL_law_1235 (by decide) (fun b => absurd b (by rw [hda.2 q]; decide)) (fun b => ?_)
      refine q_iload dL_law_1238 rfl ?_
      refine q_if_ne 1262 dL_law_1240 (by decide) (fun b => absurd (hda.2 q) b) (fun b => ?_)
      refine q_iload dL_law_1243 rfl ?_
      refine q_if_lt 1260 dL_law_1245 (by decide) (fun b => absurd b (by rw [hdc.2 q2.symm]; decide)) (fun b => ?_)
      refine q_iload dL_law_1248 rfl ?_
      refine q_if_ne 1262 dL_law_1250 (by decide) (fun b => absurd (hdc.2 q2.symm) b) (fun b => ?_)
      refine q_iload dL_law_1253 rfl ?_
      refine q_iload dL_law_1255 rfl ?_
      refine q_icmp_le 1262 dL_law_1257 (by decide) (fun b => ?_) (fun b => absurd (by obtain ⟨i1, i2, j1, j2, j3, j4⟩ := V.2 va vb q3 hvb; have := V.id hvb; rw [j2, j3]; obtain ⟨mm, hmm, -⟩ := this; exact nI_le (by omega) (by omega)) b)
      refine q_forget 24 ?_
      refine q_forget 25 ?_
      refine q_forget 26 ?_
      refine q_forget 27 ?_
      refine q_forget 28 ?_
      refine q_forget 29 ?_
      refine q_forget 30 ?_
      refine q_forget 31 ?_
      change q_W _ _ _ _ _ _ _ _ 1262 [.ref 0, .ref 100, .int (nI t), .int (nI s.1), .int (nI na), .int (nI nb), .int (nI p), .int (nI u), .int a8, .int (nI a9), .ref ri, .ref rj, .int (zAc s), .int (zRj s), .int st, .int (nI pv), .int gr, .int (zCd s (2 ^ s.1)), .int (zCt s (2 ^ s.1)), .ref rg, .int (nI m1), .int (nI m2), .int tg, .int (nI v), q_u, q_u, q_u, q_u, q_u, q_u, q_u, q_u] [] _
      exact K _ _ h6 X6 A_6 B_6 (by omega) (by omega)
  · refine q_goto 1262 dL_law_1182 (by decide) ?_
    refine q_forget 24 ?_
    refine q_forget 25 ?_
    refine q_forget 26 ?_
    refine q_forget 27 ?_
    change q_W _ _ _ _ _ _ _ _ 1262 [.ref 0, .ref 100, .int (nI t), .int (nI s.1), .int (nI na), .int (nI nb), .int (nI p), .int (nI u), .int a8, .int (nI a9), .ref ri, .ref rj, .int (zAc s), .int (zRj s), .int st, .int (nI pv), .int gr, .int (zCd s (2 ^ s.1)), .int (zCt s (2 ^ s.1)), .ref rg, .int (nI m1), .int (nI m2), .int tg, .int (nI v), q_u, q_u, q_u, q_u, q_u, q_u, q_u, q_u] [] _
    exact K _ _ h X A B (by omega) (by omega)
set_option maxRecDepth 100000 in
set_option maxHeartbeats 8000000 in
theorem l_ck4 {t na nb a9 p u ri rj rg m1 m2 pv KC KS : Nat} {a8 st gr tg : Int32} {v lc : Nat} {sh : Int32} {fl : Nat → Int32} (V : z_V B s) (hB9 : B < 2 ^ 31) (hv : v < s.1) (hd : 30 ≤ d) (hKC : KC ≤ mc) (hKS : KS ≤ ms)
    (K : ∀ kc ks h, z_X h s lc fl → z_arr 0 h ri s.1 s.2.1 → z_arr 0 h rj s.1 s.2.2.2.2.2.1 → kc ≤ KC → ks ≤ KS → q_W g mL_law d mc ms Q kc ks 1262 [.ref 0, .ref 100, .int (nI t), .int (nI s.1), .int (nI na), .int (nI nb), .int (nI p), .int (nI u), .int a8, .int (nI a9), .ref ri, .ref rj, .int (zAc s), .int (zRj s), .int st, .int (nI pv), .int gr, .int (zCd s (2 ^ s.1)), .int (zCt s (2 ^ s.1)), .ref rg, .int (nI m1), .int (nI m2), .int tg, .int (nI v), q_u, q_u, q_u, q_u, q_u, q_u, q_u, q_u] [] h) : ∀ kc ks h, z_X h s lc fl → z_arr 0 h ri s.1 s.2.1 → z_arr 0 h rj s.1 s.2.2.2.2.2.1 → kc + 10 ≤ KC → ks + 60 ≤ KS → q_W g mL_law d mc ms Q kc ks 1163 [.ref 0, .ref 100, .int (nI t), .int (nI s.1), .int (nI na), .int (nI nb), .int (nI p), .int (nI u), .int a8, .int (nI a9), .ref ri, .ref rj, .int (zAc s), .int (zRj s), .int st, .int (nI pv), .int gr, .int (zCd s (2 ^ s.1)), .int (zCt s (2 ^ s.1)), .ref rg, .int (nI m1), .int (nI m2), .int tg, .int (nI v), .int (s.2.1 v), .int (if zLt s v = 117 then (-30000 : Int32) else zRd s v), .int (zLt s v), .int sh, q_u, q_u, q_u, q_u] [] h := by
  intro kc ks h X A B hkc hks
  have h8 := V.1.1
  refine q_aload_n (by decide) dL_law_1163 rfl ?_
  refine q_iload dL_law_1164 rfl ?_
  refine q_iconst (v := 0) dL_law_1166 rfl ?_
  refine q_invSH (mc' := 2) (ms' := 12) (d' := d - 1) (as := [.ref 100, .int (s.2.1 v), .int 0]) dL_law_1167 kM_L_statusAfter kL_L_228 kT_L_statusAfter rfl rfl rfl (Nat.le_of_ble_eq_true rfl) (by omega) (by decide) (by omega) (by omega) (w_statusAfter (d := d - 1) X V hv (by omega)) (q_kC (fun h1 hB => ?_)) q_xC
  obtain ⟨X1, z_1⟩ := hB
  have A_1 := A.zone z_1
  have B_1 := B.zone z_1
  change q_W _ _ _ _ _ _ _ _ 1170 [.ref 0, .ref 100, .int (nI t), .int (nI s.1), .int (nI na), .int (nI nb), .int (nI p), .int (nI u), .int a8, .int (nI a9), .ref ri, .ref rj, .int (zAc s), .int (zRj s), .int st, .int (nI pv), .int gr, .int (zCd s (2 ^ s.1)), .int (zCt s (2 ^ s.1)), .ref rg, .int (nI m1), .int (nI m2), .int tg, .int (nI v), .int (s.2.1 v), .int (if zLt s v = 117 then (-30000 : Int32) else zRd s v), .int (zLt s v), .int sh, q_u, q_u, q_u, q_u] [.int (zLt s v)] _
  refine q_iload dL_law_1170 rfl ?_
  refine q_icmp_eq 1177 dL_law_1172 (by decide) (fun b => ?_) (fun b => absurd rfl b)
  exact l_ck5 V hB9 hv hd hKC hKS K _ _ h1 X1 A_1 B_1 (by omega) (by omega)
set_option maxRecDepth 100000 in
set_option maxHeartbeats 8000000 in
theorem l_ck3 {t na nb a9 p u ri rj rg m1 m2 pv KC KS : Nat} {a8 st gr tg : Int32} {v lc : Nat} {sh : Int32} {fl : Nat → Int32} (V : z_V B s) (hB9 : B < 2 ^ 31) (hv : v < s.1) (hd : 30 ≤ d) (hKC : KC ≤ mc) (hKS : KS ≤ ms)
    (K : ∀ kc ks h, z_X h s lc fl → z_arr 0 h ri s.1 s.2.1 → z_arr 0 h rj s.1 s.2.2.2.2.2.1 → kc ≤ KC → ks ≤ KS → q_W g mL_law d mc ms Q kc ks 1262 [.ref 0, .ref 100, .int (nI t), .int (nI s.1), .int (nI na), .int (nI nb), .int (nI p), .int (nI u), .int a8, .int (nI a9), .ref ri, .ref rj, .int (zAc s), .int (zRj s), .int st, .int (nI pv), .int gr, .int (zCd s (2 ^ s.1)), .int (zCt s (2 ^ s.1)), .ref rg, .int (nI m1), .int (nI m2), .int tg, .int (nI v), q_u, q_u, q_u, q_u, q_u, q_u, q_u, q_u] [] h) : ∀ kc ks h, z_X h s lc fl → z_arr 0 h ri s.1 s.2.1 → z_arr 0 h rj s.1 s.2.2.2.2.2.1 → kc + 16 ≤ KC → ks + 100 ≤ KS → q_W g mL_law d mc ms Q kc ks 1097 [.ref 0, .ref 100, .int (nI t), .int (nI s.1), .int (nI na), .int (nI nb), .int (nI p), .int (nI u), .int a8, .int (nI a9), .ref ri, .ref rj, .int (zAc s), .int (zRj s), .int st, .int (nI pv), .int gr, .int (zCd s (2 ^ s.1)), .int (zCt s (2 ^ s.1)), .ref rg, .int (nI m1), .int (nI m2), .int tg, .int (nI v), .int (s.2.1 v), .int (if zLt s v = 117 then (-30000 : Int32) else zRd s v), .int (zLt s v), .int sh, q_u, q_u, q_u, q_u] [] h := by
  intro kc ks h X A B hkc hks
  have h8 := V.1.1
  refine q_aload_n (by decide) dL_law_1097 rfl ?_
  refine q_iload dL_law_1098 rfl ?_
  obtain ⟨fo1, ho1⟩ := X.obj
  refine q_invV (mc' := 2) (ms' := 12) (d' := d - 1) (as := [.int (s.2.1 v)]) dL_law_1100 kM_X10_isCredible kL_L_222 kI_X10_isCredible kS_X10_isCredible rfl (kC_X10.1) ho1 rfl rfl (Nat.le_of_ble_eq_true rfl) (by omega) (by decide) (by omega) (by omega) (k_isCredible (d := d - 1) X V hv (by omega)) (q_kC (fun h1 hB => ?_)) q_xC
  obtain ⟨X1, z_1⟩ := hB
  have A_1 := A.zone z_1
  have B_1 := B.zone z_1
  change q_W _ _ _ _ _ _ _ _ 1103 [.ref 0, .ref 100, .int (nI t), .int (nI s.1), .int (nI na), .int (nI nb), .int (nI p), .int (nI u), .int a8, .int (nI a9), .ref ri, .ref rj, .int (zAc s), .int (zRj s), .int st, .int (nI pv), .int gr, .int (zCd s (2 ^ s.1)), .int (zCt s (2 ^ s.1)), .ref rg, .int (nI m1), .int (nI m2), .int tg, .int (nI v), .int (s.2.1 v), .int (if zLt s v = 117 then (-30000 : Int32) else zRd s v), .int (zLt s v), .int sh, q_u, q_u, q_u, q_u] [.int (z_b (decide (¬ zPW s (zBt v ||| zBt v) ≤ 0)))] _
  refine q_iload dL_law_1103 rfl ?_
  refine q_iload dL_law_1105 rfl ?_
  refine q_ishr dL_law_1107 ?_
  refine q_iconst (v := 1) dL_law_1108 rfl ?_
  refine q_iand dL_law_1109 ?_
  refine q_iconst (v := 1) dL_law_1110 rfl ?_
  refine r_eq01 dL_law_1111 dL_law_1114 dL_law_1115 dL_law_1118 ?_
  change q_W _ _ _ _ _ _ _ _ 1119 [.ref 0, .ref 100, .int (nI t), .int (nI s.1), .int (nI na), .int (nI nb), .int (nI p), .int (nI u), .int a8, .int (nI a9), .ref ri, .ref rj, .int (zAc s), .int (zRj s), .int st, .int (nI pv), .int gr, .int (zCd s (2 ^ s.1)), .int (zCt s (2 ^ s.1)), .ref rg, .int (nI m1), .int (nI m2), .int tg, .int (nI v), .int (s.2.1 v), .int (if zLt s v = 117 then (-30000 : Int32) else zRd s v), .int (zLt s v), .int sh, q_u, q_u, q_u, q_u] [.int (if ((((((zCd s (2 ^ s.1))) >>> (((nI v)) &&& 31))) &&& 1)) = 1 then 1 else 0), .int (z_b (decide (¬ zPW s (zBt v ||| zBt v) ≤ 0)))] _
  refine q_icmp_ne 1175 dL_law_1119 (by decide) (fun b => absurd (g_cred V hv) b) (fun b => ?_)
  refine q_aload_n (by decide) dL_law_1122 rfl ?_
  refine q_iload dL_law_1123 rfl ?_
  obtain ⟨fo2, ho2⟩ := X1.obj
  refine q_invV (mc' := 1) (ms' := 6) (d' := d - 1) (as := [.int (s.2.1 v)]) dL_law_1125 kM_X10_isCertain kL_L_225 kI_X10_isCertain kS_X10_isCertain rfl (kC_X10.1) ho2 rfl rfl (Nat.le_of_ble_eq_true rfl) (by omega) (by decide) (by omega) (by omega) (k_isCertain (d := d - 1) X1 V hv (by omega)) (q_kC (fun h2 hB => ?_)) q_xC
  obtain ⟨X2, z_2⟩ := hB
  have A_2 := A_1.zone z_2
  have B_2 := B_1.zone z_2
  change q_W _ _ _ _ _ _ _ _ 1128 [.ref 0, .ref 100, .int (nI t), .int (nI s.1), .int (nI na), .int (nI nb), .int (nI p), .int (nI u), .int a8, .int (nI a9), .ref ri, .ref rj, .int (zAc s), .int (zRj s), .int st, .int (nI pv), .int gr, .int (zCd s (2 ^ s.1)), .int (zCt s (2 ^ s.1)), .ref rg, .int (nI m1), .int (nI m2), .int tg, .int (nI v), .int (s.2.1 v), .int (if zLt s v = 117 then (-30000 : Int32) else zRd s v), .int (zLt s v), .int sh, q_u, q_u, q_u, q_u] [.int (z_b (decide (zPW s (zBt v) = zPW s 0)))] _
  refine q_iload dL_law_1128 rfl ?_
  refine q_iload dL_law_1130 rfl ?_
  refine q_ishr dL_law_1132 ?_
  refine q_iconst (v := 1) dL_law_1133 rfl ?_
  refine q_iand dL_law_1134 ?_
  refine q_iconst (v := 1) dL_law_1135 rfl ?_
  refine r_eq01 dL_law_1136 dL_law_1139 dL_law_1140 dL_law_1143 ?_
  change q_W _ _ _ _ _ _ _ _ 1144 [.ref 0, .ref 100, .int (nI t), .int (nI s.1), .int (nI na), .int (nI nb), .int (nI p), .int (nI u), .int a8, .int (nI a9), .ref ri, .ref rj, .int (zAc s), .int (zRj s), .int st, .int (nI pv), .int gr, .int (zCd s (2 ^ s.1)), .int (zCt s (2 ^ s.1)), .ref rg, .int (nI m1), .int (nI m2), .int tg, .int (nI v), .int (s.2.1 v), .int (if zLt s v = 117 then (-30000 : Int32) else zRd s v), .int (zLt s v), .int sh, q_u, q_u, q_u, q_u] [.int (if ((((((zCt s (2 ^ s.1))) >>> (((nI v)) &&& 31))) &&& 1)) = 1 then 1 else 0), .int (z_b (decide (zPW s (zBt v) = zPW s 0)))] _
  refine q_icmp_ne 1175 dL_law_1144 (by decide) (fun b => absurd (g_cert V hv) b) (fun b => ?_)
  refine q_iload dL_law_1147 rfl ?_
  refine q_bipush (v := 97) dL_law_1149 rfl ?_
  refine q_icmp_ne 1163 dL_law_1151 (by decide) (fun b => ?_) (fun b => ?_)
  · exact l_ck4 V hB9 hv hd hKC hKS K _ _ h2 X2 A_2 B_2 (by omega) (by omega)
  · refine q_aload_n (by decide) dL_law_1154 rfl ?_
    refine q_iload dL_law_1155 rfl ?_
    obtain ⟨fo3, ho3⟩ := X2.obj
    refine q_invV (mc' := 1) (ms' := 6) (d' := d - 1) (as := [.int (s.2.1 v)]) dL_law_1157 kM_X10_isCertain kL_L_225 kI_X10_isCertain kS_X10_isCertain rfl (kC_X10.1) ho3 rfl rfl (Nat.le_of_ble_eq_true rfl) (by omega) (by decide) (by omega) (by omega) (k_isCertain (d := d - 1) X2 V hv (by omega)) (q_kC (fun h3 hB => ?_)) q_xC
    obtain ⟨X3, z_3⟩ := hB
    have A_3 := A_2.zone z_3
    have B_3 := B_2.zone z_3
    change q_W _ _ _ _ _ _ _ _ 1160 [.ref 0, .ref 100, .int (nI t), .int (nI s.1), .int (nI na), .int (nI nb), .int (nI p), .int (nI u), .int a8, .int (nI a9), .ref ri, .ref rj, .int (zAc s), .int (zRj s), .int st, .int (nI pv), .int gr, .int (zCd s (2 ^ s.1)), .int (zCt s (2 ^ s.1)), .ref rg, .int (nI m1), .int (nI m2), .int tg, .int (nI v), .int (s.2.1 v), .int (if zLt s v = 117 then (-30000 : Int32) else zRd s v), .int (zLt s v), .int sh, q_u, q_u, q_u, q_u] [.int (z_b (decide (zPW s (zBt v) = zPW s 0)))] _
    refine q_if_eq 1175 dL_law_1160 (by decide) (fun b2 => absurd b2 (by rw [g_sure V hv b]; decide)) (fun b2 => ?_)
    exact l_ck4 V hB9 hv hd hKC hKS K _ _ h3 X3 A_3 B_3 (by omega) (by omega)
set_option maxRecDepth 100000 in
set_option maxHeartbeats 8000000 in
theorem l_ck2 {t na nb a9 p u ri rj rg m1 m2 pv KC KS : Nat} {a8 st gr tg : Int32} {v lc : Nat} {sh : Int32} {fl : Nat → Int32} (V : z_V B s) (hB9 : B < 2 ^ 31) (hv : v < s.1) (hd : 30 ≤ d) (hKC : KC ≤ mc) (hKS : KS ≤ ms) (hsh : zLt s v = sh)
    (K : ∀ kc ks h, z_X h s lc fl → z_arr 0 h ri s.1 s.2.1 → z_arr 0 h rj s.1 s.2.2.2.2.2.1 → kc ≤ KC → ks ≤ KS → q_W g mL_law d mc ms Q kc ks 1262 [.ref 0, .ref 100, .int (nI t), .int (nI s.1), .int (nI na), .int (nI nb), .int (nI p), .int (nI u), .int a8, .int (nI a9), .ref ri, .ref rj, .int (zAc s), .int (zRj s), .int st, .int (nI pv), .int gr, .int (zCd s (2 ^ s.1)), .int (zCt s (2 ^ s.1)), .ref rg, .int (nI m1), .int (nI m2), .int tg, .int (nI v), q_u, q_u, q_u, q_u, q_u, q_u, q_u, q_u] [] h) : ∀ kc ks h, z_X h s lc fl → z_arr 0 h ri s.1 s.2.1 → z_arr 0 h rj s.1 s.2.2.2.2.2.1 → kc + 22 ≤ KC → ks + 140 ≤ KS → q_W g mL_law d mc ms Q kc ks 1000 [.ref 0, .ref 100, .int (nI t), .int (nI s.1), .int (nI na), .int (nI nb), .int (nI p), .int (nI u), .int a8, .int (nI a9), .ref ri, .ref rj, .int (zAc s), .int (zRj s), .int st, .int (nI pv), .int gr, .int (zCd s (2 ^ s.1)), .int (zCt s (2 ^ s.1)), .ref rg, .int (nI m1), .int (nI m2), .int tg, .int (nI v), .int (s.2.1 v), .int (if zLt s v = 117 then (-30000 : Int32) else zRd s v), .int (zLt s v), .int sh, q_u, q_u, q_u, q_u] [] h := by
  intro kc ks h X A B hkc hks
  have h8 := V.1.1
  refine q_iload dL_law_1000 rfl ?_
  refine q_iload dL_law_1002 rfl ?_
  refine q_icmp_ne 1175 dL_law_1004 (by decide) (fun b => absurd hsh b) (fun b => ?_)
  refine q_aload_n (by decide) dL_law_1007 rfl ?_
  refine q_iload dL_law_1008 rfl ?_
  obtain ⟨fo1, ho1⟩ := X.obj
  refine q_invV (mc' := 1) (ms' := 6) (d' := d - 1) (as := [.int (s.2.1 v)]) dL_law_1010 kM_X10_isAcceptedByGame kL_L_216 kI_X10_isAcceptedByGame kS_X10_isAcceptedByGame rfl (kC_X10.1) ho1 rfl rfl (Nat.le_of_ble_eq_true rfl) (by omega) (by decide) (by omega) (by omega) (k_isAcceptedByGame (d := d - 1) X V hv (by omega)) (q_kC (fun h1 hB => ?_)) q_xC
  obtain ⟨X1, z_1⟩ := hB
  have A_1 := A.zone z_1
  have B_1 := B.zone z_1
  change q_W _ _ _ _ _ _ _ _ 1013 [.ref 0, .ref 100, .int (nI t), .int (nI s.1), .int (nI na), .int (nI nb), .int (nI p), .int (nI u), .int a8, .int (nI a9), .ref ri, .ref rj, .int (zAc s), .int (zRj s), .int st, .int (nI pv), .int gr, .int (zCd s (2 ^ s.1)), .int (zCt s (2 ^ s.1)), .ref rg, .int (nI m1), .int (nI m2), .int tg, .int (nI v), .int (s.2.1 v), .int (if zLt s v = 117 then (-30000 : Int32) else zRd s v), .int (zLt s v), .int sh, q_u, q_u, q_u, q_u] [.int (z_b (z_bi (zAc s) v))] _
  refine q_iload dL_law_1013 rfl ?_
  refine q_bipush (v := 97) dL_law_1015 rfl ?_
  refine r_eq01 dL_law_1017 dL_law_1020 dL_law_1021 dL_law_1024 ?_
  change q_W _ _ _ _ _ _ _ _ 1025 [.ref 0, .ref 100, .int (nI t), .int (nI s.1), .int (nI na), .int (nI nb), .int (nI p), .int (nI u), .int a8, .int (nI a9), .ref ri, .ref rj, .int (zAc s), .int (zRj s), .int st, .int (nI pv), .int gr, .int (zCd s (2 ^ s.1)), .int (zCt s (2 ^ s.1)), .ref rg, .int (nI m1), .int (nI m2), .int tg, .int (nI v), .int (s.2.1 v), .int (if zLt s v = 117 then (-30000 : Int32) else zRd s v), .int (zLt s v), .int sh, q_u, q_u, q_u, q_u] [.int (if ((zLt s v)) = 97 then 1 else 0), .int (z_b (z_bi (zAc s) v))] _
  refine q_icmp_ne 1175 dL_law_1025 (by decide) (fun b => absurd (g_gm (s := s) (v := v) (by omega)).1 b) (fun b => ?_)
  refine q_aload_n (by decide) dL_law_1028 rfl ?_
  refine q_iload dL_law_1029 rfl ?_
  obtain ⟨fo2, ho2⟩ := X1.obj
  refine q_invV (mc' := 1) (ms' := 6) (d' := d - 1) (as := [.int (s.2.1 v)]) dL_law_1031 kM_X10_canOpponentWin kL_L_219 kI_X10_canOpponentWin kS_X10_canOpponentWin rfl (kC_X10.1) ho2 rfl rfl (Nat.le_of_ble_eq_true rfl) (by omega) (by decide) (by omega) (by omega) (k_canOpponentWin (d := d - 1) X1 V hv (by omega)) (q_kC (fun h2 hB => ?_)) q_xC
  obtain ⟨X2, z_2⟩ := hB
  have A_2 := A_1.zone z_2
  have B_2 := B_1.zone z_2
  change q_W _ _ _ _ _ _ _ _ 1034 [.ref 0, .ref 100, .int (nI t), .int (nI s.1), .int (nI na), .int (nI nb), .int (nI p), .int (nI u), .int a8, .int (nI a9), .ref ri, .ref rj, .int (zAc s), .int (zRj s), .int st, .int (nI pv), .int gr, .int (zCd s (2 ^ s.1)), .int (zCt s (2 ^ s.1)), .ref rg, .int (nI m1), .int (nI m2), .int tg, .int (nI v), .int (s.2.1 v), .int (if zLt s v = 117 then (-30000 : Int32) else zRd s v), .int (zLt s v), .int sh, q_u, q_u, q_u, q_u] [.int (z_b (!z_bi (zAc s) v))] _
  refine q_iload dL_law_1034 rfl ?_
  refine q_bipush (v := 97) dL_law_1036 rfl ?_
  refine r_eq01 dL_law_1038 dL_law_1041 dL_law_1042 dL_law_1045 ?_
  change q_W _ _ _ _ _ _ _ _ 1046 [.ref 0, .ref 100, .int (nI t), .int (nI s.1), .int (nI na), .int (nI nb), .int (nI p), .int (nI u), .int a8, .int (nI a9), .ref ri, .ref rj, .int (zAc s), .int (zRj s), .int st, .int (nI pv), .int gr, .int (zCd s (2 ^ s.1)), .int (zCt s (2 ^ s.1)), .ref rg, .int (nI m1), .int (nI m2), .int tg, .int (nI v), .int (s.2.1 v), .int (if zLt s v = 117 then (-30000 : Int32) else zRd s v), .int (zLt s v), .int sh, q_u, q_u, q_u, q_u] [.int (if ((zLt s v)) = 97 then 1 else 0), .int (z_b (!z_bi (zAc s) v))] _
  refine q_icmp_eq 1175 dL_law_1046 (by decide) (fun b => absurd b (g_gm (s := s) (v := v) (by omega)).2) (fun b => ?_)
  refine q_iload dL_law_1049 rfl ?_
  refine q_sipush (v := -30000) dL_law_1051 rfl ?_
  refine r_eq01 dL_law_1054 dL_law_1057 dL_law_1058 dL_law_1061 ?_
  change q_W _ _ _ _ _ _ _ _ 1062 [.ref 0, .ref 100, .int (nI t), .int (nI s.1), .int (nI na), .int (nI nb), .int (nI p), .int (nI u), .int a8, .int (nI a9), .ref ri, .ref rj, .int (zAc s), .int (zRj s), .int st, .int (nI pv), .int gr, .int (zCd s (2 ^ s.1)), .int (zCt s (2 ^ s.1)), .ref rg, .int (nI m1), .int (nI m2), .int tg, .int (nI v), .int (s.2.1 v), .int (if zLt s v = 117 then (-30000 : Int32) else zRd s v), .int (zLt s v), .int sh, q_u, q_u, q_u, q_u] [.int (if ((if zLt s v = 117 then (-30000 : Int32) else zRd s v)) = (-30000) then 1 else 0)] _
  refine q_iload dL_law_1062 rfl ?_
  refine q_bipush (v := 117) dL_law_1064 rfl ?_
  refine r_eq01 dL_law_1066 dL_law_1069 dL_law_1070 dL_law_1073 ?_
  change q_W _ _ _ _ _ _ _ _ 1074 [.ref 0, .ref 100, .int (nI t), .int (nI s.1), .int (nI na), .int (nI nb), .int (nI p), .int (nI u), .int a8, .int (nI a9), .ref ri, .ref rj, .int (zAc s), .int (zRj s), .int st, .int (nI pv), .int gr, .int (zCd s (2 ^ s.1)), .int (zCt s (2 ^ s.1)), .ref rg, .int (nI m1), .int (nI m2), .int tg, .int (nI v), .int (s.2.1 v), .int (if zLt s v = 117 then (-30000 : Int32) else zRd s v), .int (zLt s v), .int sh, q_u, q_u, q_u, q_u] [.int (if ((zLt s v)) = 117 then 1 else 0), .int (if ((if zLt s v = 117 then (-30000 : Int32) else zRd s v)) = (-30000) then 1 else 0)] _
  refine q_icmp_ne 1175 dL_law_1074 (by decide) (fun b => absurd (g_rdk V hv).1 b) (fun b => ?_)
  refine q_iload dL_law_1077 rfl ?_
  refine q_sipush (v := -30000) dL_law_1079 rfl ?_
  refine q_icmp_eq 1097 dL_law_1082 (by decide) (fun b => ?_) (fun b => ?_)
  · exact l_ck3 V hB9 hv hd hKC hKS K _ _ h2 X2 A_2 B_2 (by omega) (by omega)
  · obtain ⟨rm, r1, r2, er⟩ := (g_rdk V hv).2 b
    refine q_iload dL_law_1085 rfl ?_
    refine q_iconst (v := 1) dL_law_1087 rfl ?_
    refine q_icmp_lt 1175 dL_law_1088 (by decide) (fun b => absurd b (by rw [er]; exact fun c => by have := (nI_ltI (b := 1) (by omega) (by omega)).mp c; omega)) (fun b => ?_)
    refine q_iload dL_law_1091 rfl ?_
    refine q_iload_n dL_law_1093 rfl ?_
    refine q_icmp_gt 1175 dL_law_1094 (by decide) (fun b => absurd b (by rw [er]; exact fun c => by have := (nI_ltI (by omega) (by omega)).mp c; omega)) (fun b => ?_)
    exact l_ck3 V hB9 hv hd hKC hKS K _ _ h2 X2 A_2 B_2 (by omega) (by omega)
set_option maxRecDepth 100000 in
set_option maxHeartbeats 8000000 in
theorem l_ck1 {t na nb a9 p u ri rj rg m1 m2 pv KC KS : Nat} {a8 st gr tg : Int32} {v lc : Nat} {sh : Int32} {fl : Nat → Int32} (V : z_V B s) (hB9 : B < 2 ^ 31) (hv : v < s.1) (hd : 30 ≤ d) (hKC : KC ≤ mc) (hKS : KS ≤ ms)
    (K : ∀ kc ks h, z_X h s lc fl → z_arr 0 h ri s.1 s.2.1 → z_arr 0 h rj s.1 s.2.2.2.2.2.1 → kc ≤ KC → ks ≤ KS → q_W g mL_law d mc ms Q kc ks 1262 [.ref 0, .ref 100, .int (nI t), .int (nI s.1), .int (nI na), .int (nI nb), .int (nI p), .int (nI u), .int a8, .int (nI a9), .ref ri, .ref rj, .int (zAc s), .int (zRj s), .int st, .int (nI pv), .int gr, .int (zCd s (2 ^ s.1)), .int (zCt s (2 ^ s.1)), .ref rg, .int (nI m1), .int (nI m2), .int tg, .int (nI v), q_u, q_u, q_u, q_u, q_u, q_u, q_u, q_u] [] h) : ∀ kc ks h, z_X h s lc fl → z_arr 0 h ri s.1 s.2.1 → z_arr 0 h rj s.1 s.2.2.2.2.2.1 → kc + 26 ≤ KC → ks + 180 ≤ KS → q_W g mL_law d mc ms Q kc ks 939 [.ref 0, .ref 100, .int (nI t), .int (nI s.1), .int (nI na), .int (nI nb), .int (nI p), .int (nI u), .int a8, .int (nI a9), .ref ri, .ref rj, .int (zAc s), .int (zRj s), .int st, .int (nI pv), .int gr, .int (zCd s (2 ^ s.1)), .int (zCt s (2 ^ s.1)), .ref rg, .int (nI m1), .int (nI m2), .int tg, .int (nI v), q_u, q_u, q_u, q_u, q_u, q_u, q_u, q_u] [] h := by
  intro kc ks h X A B hkc hks
  have h8 := V.1.1
  refine q_aload A.r0 dL_law_939 rfl ?_
  refine q_iload dL_law_941 rfl ?_
  refine a_ld A dL_law_943 (by omega) (by omega) ?_
  change q_W _ _ _ _ _ _ _ _ 944 [.ref 0, .ref 100, .int (nI t), .int (nI s.1), .int (nI na), .int (nI nb), .int (nI p), .int (nI u), .int a8, .int (nI a9), .ref ri, .ref rj, .int (zAc s), .int (zRj s), .int st, .int (nI pv), .int gr, .int (zCd s (2 ^ s.1)), .int (zCt s (2 ^ s.1)), .ref rg, .int (nI m1), .int (nI m2), .int tg, .int (nI v), q_u, q_u, q_u, q_u, q_u, q_u, q_u, q_u] [.int (s.2.1 v)] _
  refine q_istore dL_law_944 (by decide) rfl ?_
  change q_W _ _ _ _ _ _ _ _ 946 [.ref 0, .ref 100, .int (nI t), .int (nI s.1), .int (nI na), .int (nI nb), .int (nI p), .int (nI u), .int a8, .int (nI a9), .ref ri, .ref rj, .int (zAc s), .int (zRj s), .int st, .int (nI pv), .int gr, .int (zCd s (2 ^ s.1)), .int (zCt s (2 ^ s.1)), .ref rg, .int (nI m1), .int (nI m2), .int tg, .int (nI v), .int (s.2.1 v), q_u, q_u, q_u, q_u, q_u, q_u, q_u] [] _
  refine q_aload_n (by decide) dL_law_946 rfl ?_
  refine q_iload dL_law_947 rfl ?_
  refine q_invSH (mc' := 2) (ms' := 12) (d' := d - 1) (as := [.ref 100, .int (s.2.1 v)]) dL_law_949 kM_L_roundOf kL_L_214 kT_L_roundOf rfl rfl rfl (Nat.le_of_ble_eq_true rfl) (by omega) (by decide) (by omega) (by omega) (w_roundOf (d := d - 1) X V hv (by omega)) (q_kC (fun h1 hB => ?_)) q_xC
  obtain ⟨X1, z_1⟩ := hB
  have A_1 := A.zone z_1
  have B_1 := B.zone z_1
  change q_W _ _ _ _ _ _ _ _ 952 [.ref 0, .ref 100, .int (nI t), .int (nI s.1), .int (nI na), .int (nI nb), .int (nI p), .int (nI u), .int a8, .int (nI a9), .ref ri, .ref rj, .int (zAc s), .int (zRj s), .int st, .int (nI pv), .int gr, .int (zCd s (2 ^ s.1)), .int (zCt s (2 ^ s.1)), .ref rg, .int (nI m1), .int (nI m2), .int tg, .int (nI v), .int (s.2.1 v), q_u, q_u, q_u, q_u, q_u, q_u, q_u] [.int (if zLt s v = 117 then (-30000 : Int32) else zRd s v)] _
  refine q_istore dL_law_952 (by decide) rfl ?_
  change q_W _ _ _ _ _ _ _ _ 954 [.ref 0, .ref 100, .int (nI t), .int (nI s.1), .int (nI na), .int (nI nb), .int (nI p), .int (nI u), .int a8, .int (nI a9), .ref ri, .ref rj, .int (zAc s), .int (zRj s), .int st, .int (nI pv), .int gr, .int (zCd s (2 ^ s.1)), .int (zCt s (2 ^ s.1)), .ref rg, .int (nI m1), .int (nI m2), .int tg, .int (nI v), .int (s.2.1 v), .int (if zLt s v = 117 then (-30000 : Int32) else zRd s v), q_u, q_u, q_u, q_u, q_u, q_u] [] _
  refine q_aload_n (by decide) dL_law_954 rfl ?_
  refine q_iload dL_law_955 rfl ?_
  obtain ⟨fo2, ho2⟩ := X1.obj
  refine q_invV (mc' := 1) (ms' := 6) (d' := d - 1) (as := [.int (s.2.1 v)]) dL_law_957 kM_X10_status kL_L_199 kI_X10_status kS_X10_status rfl (kC_X10.1) ho2 rfl rfl (Nat.le_of_ble_eq_true rfl) (by omega) (by decide) (by omega) (by omega) (k_status (d := d - 1) X1 V hv (by omega)) (q_kC (fun h2 hB => ?_)) q_xC
  obtain ⟨X2, z_2⟩ := hB
  have A_2 := A_1.zone z_2
  have B_2 := B_1.zone z_2
  change q_W _ _ _ _ _ _ _ _ 960 [.ref 0, .ref 100, .int (nI t), .int (nI s.1), .int (nI na), .int (nI nb), .int (nI p), .int (nI u), .int a8, .int (nI a9), .ref ri, .ref rj, .int (zAc s), .int (zRj s), .int st, .int (nI pv), .int gr, .int (zCd s (2 ^ s.1)), .int (zCt s (2 ^ s.1)), .ref rg, .int (nI m1), .int (nI m2), .int tg, .int (nI v), .int (s.2.1 v), .int (if zLt s v = 117 then (-30000 : Int32) else zRd s v), q_u, q_u, q_u, q_u, q_u, q_u] [.int (zLt s v)] _
  refine q_istore dL_law_960 (by decide) rfl ?_
  change q_W _ _ _ _ _ _ _ _ 962 [.ref 0, .ref 100, .int (nI t), .int (nI s.1), .int (nI na), .int (nI nb), .int (nI p), .int (nI u), .int a8, .int (nI a9), .ref ri, .ref rj, .int (zAc s), .int (zRj s), .int st, .int (nI pv), .int gr, .int (zCd s (2 ^ s.1)), .int (zCt s (2 ^ s.1)), .ref rg, .int (nI m1), .int (nI m2), .int tg, .int (nI v), .int (s.2.1 v), .int (if zLt s v = 117 then (-30000 : Int32) else zRd s v), .int (zLt s v), q_u, q_u, q_u, q_u, q_u] [] _
  refine q_aload B_2.r0 dL_law_962 rfl ?_
  refine q_iload dL_law_964 rfl ?_
  refine a_ld B_2 dL_law_966 (by omega) (by omega) ?_
  change q_W _ _ _ _ _ _ _ _ 967 [.ref 0, .ref 100, .int (nI t), .int (nI s.1), .int (nI na), .int (nI nb), .int (nI p), .int (nI u), .int a8, .int (nI a9), .ref ri, .ref rj, .int (zAc s), .int (zRj s), .int st, .int (nI pv), .int gr, .int (zCd s (2 ^ s.1)), .int (zCt s (2 ^ s.1)), .ref rg, .int (nI m1), .int (nI m2), .int tg, .int (nI v), .int (s.2.1 v), .int (if zLt s v = 117 then (-30000 : Int32) else zRd s v), .int (zLt s v), q_u, q_u, q_u, q_u, q_u] [.int (s.2.2.2.2.2.1 v)] _
  refine q_iload dL_law_967 rfl ?_
  refine q_iconst (v := -1) dL_law_969 rfl ?_
  refine q_ixor dL_law_970 ?_
  refine q_iand dL_law_971 ?_
  refine q_if_ne 980 dL_law_972 (by decide) (fun b => ?_) (fun b => ?_)
  · have ha : z_bi (zAc s) v = false := by simpa using fun c => b ((g_acI V hv).mpr c)
    refine q_aload B_2.r0 dL_law_980 rfl ?_
    refine q_iload dL_law_982 rfl ?_
    refine a_ld B_2 dL_law_984 (by omega) (by omega) ?_
    change q_W _ _ _ _ _ _ _ _ 985 [.ref 0, .ref 100, .int (nI t), .int (nI s.1), .int (nI na), .int (nI nb), .int (nI p), .int (nI u), .int a8, .int (nI a9), .ref ri, .ref rj, .int (zAc s), .int (zRj s), .int st, .int (nI pv), .int gr, .int (zCd s (2 ^ s.1)), .int (zCt s (2 ^ s.1)), .ref rg, .int (nI m1), .int (nI m2), .int tg, .int (nI v), .int (s.2.1 v), .int (if zLt s v = 117 then (-30000 : Int32) else zRd s v), .int (zLt s v), q_u, q_u, q_u, q_u, q_u] [.int (s.2.2.2.2.2.1 v)] _
    refine q_iload dL_law_985 rfl ?_
    refine q_iand dL_law_987 ?_
    refine q_if_eq 996 dL_law_988 (by decide) (fun b2 => ?_) (fun b2 => ?_)
    · refine q_bipush (v := 117) dL_law_996 rfl ?_
      refine q_istore dL_law_998 (by decide) rfl ?_
      change q_W _ _ _ _ _ _ _ _ 1000 [.ref 0, .ref 100, .int (nI t), .int (nI s.1), .int (nI na), .int (nI nb), .int (nI p), .int (nI u), .int a8, .int (nI a9), .ref ri, .ref rj, .int (zAc s), .int (zRj s), .int st, .int (nI pv), .int gr, .int (zCd s (2 ^ s.1)), .int (zCt s (2 ^ s.1)), .ref rg, .int (nI m1), .int (nI m2), .int tg, .int (nI v), .int (s.2.1 v), .int (if zLt s v = 117 then (-30000 : Int32) else zRd s v), .int (zLt s v), .int 117, q_u, q_u, q_u, q_u] [] _
      exact l_ck2 V hB9 hv hd hKC hKS (by exact g_ltU (by omega) ha ((g_rjI V hv).mp b2)) K _ _ h2 X2 A_2 B_2 (by omega) (by omega)
    · refine q_bipush (v := 114) dL_law_991 rfl ?_
      refine q_goto 998 dL_law_993 (by decide) ?_
      refine q_istore dL_law_998 (by decide) rfl ?_
      change q_W _ _ _ _ _ _ _ _ 1000 [.ref 0, .ref 100, .int (nI t), .int (nI s.1), .int (nI na), .int (nI nb), .int (nI p), .int (nI u), .int a8, .int (nI a9), .ref ri, .ref rj, .int (zAc s), .int (zRj s), .int st, .int (nI pv), .int gr, .int (zCd s (2 ^ s.1)), .int (zCt s (2 ^ s.1)), .ref rg, .int (nI m1), .int (nI m2), .int tg, .int (nI v), .int (s.2.1 v), .int (if zLt s v = 117 then (-30000 : Int32) else zRd s v), .int (zLt s v), .int 114, q_u, q_u, q_u, q_u] [] _
      exact l_ck2 V hB9 hv hd hKC hKS (by exact g_ltR (by omega) ha (by simpa using fun c => b2 ((g_rjI V hv).mpr c))) K _ _ h2 X2 A_2 B_2 (by omega) (by omega)
  · refine q_bipush (v := 97) dL_law_975 rfl ?_
    refine q_goto 998 dL_law_977 (by decide) ?_
    refine q_istore dL_law_998 (by decide) rfl ?_
    change q_W _ _ _ _ _ _ _ _ 1000 [.ref 0, .ref 100, .int (nI t), .int (nI s.1), .int (nI na), .int (nI nb), .int (nI p), .int (nI u), .int a8, .int (nI a9), .ref ri, .ref rj, .int (zAc s), .int (zRj s), .int st, .int (nI pv), .int gr, .int (zCd s (2 ^ s.1)), .int (zCt s (2 ^ s.1)), .ref rg, .int (nI m1), .int (nI m2), .int tg, .int (nI v), .int (s.2.1 v), .int (if zLt s v = 117 then (-30000 : Int32) else zRd s v), .int (zLt s v), .int 97, q_u, q_u, q_u, q_u] [] _
    exact l_ck2 V hB9 hv hd hKC hKS (by exact g_ltA (by omega) ((g_acI V hv).mp b)) K _ _ h2 X2 A_2 B_2 (by omega) (by omega)
set_option maxRecDepth 100000 in
set_option maxHeartbeats 8000000 in
theorem l_chk {t na nb a9 p u ri rj rg m1 m2 pv KC KS : Nat} {a8 st gr tg : Int32} {lc : Nat} {fl : Nat → Int32} (V : z_V B s) (hB9 : B < 2 ^ 31) (hd : 30 ≤ d) (hKC : KC ≤ mc) (hKS : KS ≤ ms)
    (K : ∀ kc ks h, z_X h s lc fl → z_arr 0 h ri s.1 s.2.1 → kc ≤ KC → ks ≤ KS → q_W g mL_law d mc ms Q kc ks 1268 [.ref 0, .ref 100, .int (nI t), .int (nI s.1), .int (nI na), .int (nI nb), .int (nI p), .int (nI u), .int a8, .int (nI a9), .ref ri, .ref rj, .int (zAc s), .int (zRj s), .int st, .int (nI pv), .int gr, .int (zCd s (2 ^ s.1)), .int (zCt s (2 ^ s.1)), .ref rg, .int (nI m1), .int (nI m2), .int tg, q_u, q_u, q_u, q_u, q_u, q_u, q_u, q_u, q_u] [] h) : ∀ r v kc ks h, v + r = s.1 → z_X h s lc fl → z_arr 0 h ri s.1 s.2.1 → z_arr 0 h rj s.1 s.2.2.2.2.2.1 → kc + 26 * r ≤ KC → ks + 180 * r ≤ KS → q_W g mL_law d mc ms Q kc ks 933 [.ref 0, .ref 100, .int (nI t), .int (nI s.1), .int (nI na), .int (nI nb), .int (nI p), .int (nI u), .int a8, .int (nI a9), .ref ri, .ref rj, .int (zAc s), .int (zRj s), .int st, .int (nI pv), .int gr, .int (zCd s (2 ^ s.1)), .int (zCt s (2 ^ s.1)), .ref rg, .int (nI m1), .int (nI m2), .int tg, .int (nI v), q_u, q_u, q_u, q_u, q_u, q_u, q_u, q_u] [] h := by
  have h8 := V.1.1
  intro r
  induction r with
  | zero =>
    intro v kc ks h hr X A B hkc hks
    have e : v = s.1 := by omega
    subst e
    refine q_iload dL_law_933 rfl ?_
    refine q_iload_n dL_law_935 rfl ?_
    refine q_icmp_ge 1268 dL_law_936 (by decide) (fun b => ?_) (fun b => absurd ((nI_leI (by omega) (by omega)).mpr (by omega)) b)
    refine q_forget 23 ?_
    change q_W _ _ _ _ _ _ _ _ 1268 [.ref 0, .ref 100, .int (nI t), .int (nI s.1), .int (nI na), .int (nI nb), .int (nI p), .int (nI u), .int a8, .int (nI a9), .ref ri, .ref rj, .int (zAc s), .int (zRj s), .int st, .int (nI pv), .int gr, .int (zCd s (2 ^ s.1)), .int (zCt s (2 ^ s.1)), .ref rg, .int (nI m1), .int (nI m2), .int tg, q_u, q_u, q_u, q_u, q_u, q_u, q_u, q_u, q_u] [] _
    exact K _ _ h X A (by omega) (by omega)
  | succ r ih =>
    intro v kc ks h hr X A B hkc hks
    refine q_iload dL_law_933 rfl ?_
    refine q_iload_n dL_law_935 rfl ?_
    refine q_icmp_ge 1268 dL_law_936 (by decide) (fun b => absurd ((nI_leI (by omega) (by omega)).mp b) (by omega)) (fun b => ?_)
    refine l_ck1 (sh := 0) (KC := KC - 26 * r) (KS := KS - 180 * r) V hB9 (by omega) hd (by omega) (by omega) (fun kc ks h X A B hkc hks => ?_) _ _ h X A B (by omega) (by omega)
    refine q_iinc (x := nI v) (v := nI (v + 1)) dL_law_1262 rfl (nI_add _ 1) rfl ?_
    change q_W _ _ _ _ _ _ _ _ 1265 [.ref 0, .ref 100, .int (nI t), .int (nI s.1), .int (nI na), .int (nI nb), .int (nI p), .int (nI u), .int a8, .int (nI a9), .ref ri, .ref rj, .int (zAc s), .int (zRj s), .int st, .int (nI pv), .int gr, .int (zCd s (2 ^ s.1)), .int (zCt s (2 ^ s.1)), .ref rg, .int (nI m1), .int (nI m2), .int tg, .int (nI (v + 1)), q_u, q_u, q_u, q_u, q_u, q_u, q_u, q_u] [] _
    refine q_goto 933 dL_law_1265 (by decide) ?_
    exact ih (v + 1) _ _ h (by omega) X A B (by omega) (by omega)
end CHK
