theorem z_rc10_vk {pc pp cn : Nat} {vb f : Nat → Int32} : ∀ (r k c : Nat) (oa ob : Nat → Int32) (po : Int32) (p : Nat), k + r = 11 → ∀ {v : Bool} {pp' : Nat} {po' : Int32} {vb' oa' ob' : Nat → Int32}, x_pr_readCommand_10 pc pp vb cn f r k c oa ob po p = .inr (v, pp', po', vb', oa', ob') → ∃ k' : Nat, k' < 11 ∧ vb' = upd vb pc (nI k') := by
  intro r
  induction r with
  | zero =>
    intro k c oa ob po p hk v pp' po' vb' oa' ob' h
    simp [x_pr_readCommand_10] at h
  | succ r ih =>
    intro k c oa ob po p hk v pp' po' vb' oa' ob' h
    simp only [x_pr_readCommand_10] at h
    split at h
    · simp only [Sum.inr.injEq, Prod.mk.injEq] at h
      exact ⟨k, by omega, h.2.2.2.1.symm⟩
    · exact ih _ _ _ _ _ _ (by omega) h
theorem z_rc_vk {pc pp cn : Nat} {po : Int32} {vb oa ob f : Nat → Int32} (h : (x_pr_readCommand pc pp po vb oa ob cn f).1 = true) : ∃ k' : Nat, k' < 11 ∧ (x_pr_readCommand pc pp po vb oa ob cn f).2.2.2.1 = upd vb pc (nI k') := by
  unfold x_pr_readCommand at h ⊢
  cases e : x_pr_readCommand_10 pc pp vb cn f 11 0 pp oa ob po pp with
  | inl z => simp [e] at h
  | inr z =>
    obtain ⟨v, q1, q2, q3, q4, q5⟩ := z
    exact z_rc10_vk 11 0 _ _ _ _ _ (by omega) e
theorem z_read10_vk {cn : Nat} {f : Nat → Int32} : ∀ (r pc pp : Nat) (po : Int32) (vb oa ob : Nat → Int32), (∀ i, i < pc → ∃ k : Nat, k < 11 ∧ vb i = nI k) → (x_pr_read_10 cn f r pc pp po vb oa ob).1 = true → ∀ i, i < (x_pr_read_10 cn f r pc pp po vb oa ob).2.1 → ∃ k : Nat, k < 11 ∧ (x_pr_read_10 cn f r pc pp po vb oa ob).2.2.2.2.1 i = nI k := by
  intro r
  induction r with
  | zero =>
    intro pc pp po vb oa ob hv h
    simp [x_pr_read_10] at h
  | succ r ih =>
    intro pc pp po vb oa ob hv h
    simp only [x_pr_read_10] at h ⊢
    by_cases e : (x_pr_readCommand pc pp po vb oa ob cn f).1 = true
    · obtain ⟨k', hk', e2⟩ := z_rc_vk e
      have hn : ∀ i, i < pc + 1 → ∃ k : Nat, k < 11 ∧ (x_pr_readCommand pc pp po vb oa ob cn f).2.2.2.1 i = nI k := fun i hi => by
        rw [e2]
        by_cases q : i = pc
        · subst q
          exact ⟨k', hk', pk_us⟩
        · obtain ⟨k, hk, hk2⟩ := hv i (by omega)
          exact ⟨k, hk, (pk_un q).trans hk2⟩
      rw [if_pos e] at h ⊢
      split at h
      · next c =>
        rw [if_pos c]
        exact hn
      · next c =>
        rw [if_neg c]
        split at h
        · next c2 =>
          rw [if_pos c2]
          exact ih _ _ _ _ _ _ hn h
        · simp at h
    · rw [if_neg e] at h
      simp at h
theorem z_read_vk {po : Int32} {vb oa ob : Nat → Int32} {cn : Nat} {f : Nat → Int32} {v : Bool} {pc' pp' : Nat} {po' : Int32} {vb' oa' ob' : Nat → Int32} (h : x_pr_read po vb oa ob cn f = (v, pc', pp', po', vb', oa', ob')) (hv : v = true) : ∀ i, i < pc' → vb' i = nI (vb' i).toNatClampNeg ∧ (vb' i).toNatClampNeg < 11 := by
  subst hv
  intro i hi
  have q := z_read10_vk (cn := cn) (f := f) 16 0 0 po vb oa ob (fun i hi => absurd hi (Nat.not_lt_zero i))
  unfold x_pr_read at h
  rw [h] at q
  obtain ⟨k, hk, e⟩ := q rfl i hi
  dsimp only at e
  rw [e, nI_clamp (by omega)]
  exact ⟨rfl, hk⟩
/-- the three classes that a change throws -/
def z_cls (E : String) : Prop := E = "java/util/NoSuchElementException" ∨ E = "java/lang/IllegalArgumentException" ∨ E = "java/lang/IllegalStateException"
theorem z_slot2_inl {id : Nat → Int32} {xid : Int32} : ∀ (r k : Nat) {zz : Nat ⊕ String}, x_st_slotOfKnown_2 id xid r k = .inr zz → ∃ v, zz = .inl v := by
  intro r
  induction r with
  | zero => intro k zz h; simp [x_st_slotOfKnown_2] at h
  | succ r ih =>
    intro k zz h
    simp only [x_st_slotOfKnown_2] at h
    split at h
    · simp only [Sum.inr.injEq] at h
      exact ⟨k, h.symm⟩
    · exact ih _ h
theorem z_slot_cls {n : Nat} {id : Nat → Int32} {xid : Int32} {E : String} (h : x_st_slotOfKnown n id xid = .inr E) : z_cls E := by
  unfold x_st_slotOfKnown at h
  split at h
  · simp only [Sum.inr.injEq] at h
    exact Or.inl h.symm
  · next zz e =>
    obtain ⟨v, rfl⟩ := z_slot2_inl _ _ e
    simp at h
theorem z_mbh_cls {mn : Nat} {E : String} (h : x_dl_mustBeHeld mn = .inr E) : z_cls E := by
  unfold x_dl_mustBeHeld at h
  split at h
  · simp only [Sum.inr.injEq] at h
    exact Or.inl h.symm
  · simp at h
theorem z_mbw_cls {xw : Int32} {E : String} (h : x_st_mustBeWeight xw = .inr E) : z_cls E := by
  unfold x_st_mustBeWeight at h
  repeat' split at h
  all_goals first | (simp at h; done) | (simp only [Sum.inr.injEq] at h; exact Or.inr (Or.inl h.symm))
theorem z_slotR_cls {n mn : Nat} {id : Nat → Int32} {xid : Int32} {E : String} (h : x_st_slotOfReply n id mn xid = .inr E) : z_cls E := by
  unfold x_st_slotOfReply at h
  split at h
  · split at h
    · simp at h
    · next e =>
      simp only [Sum.inr.injEq] at h
      subst h
      exact z_slot_cls e
  · next e =>
    simp only [Sum.inr.injEq] at h
    subst h
    exact z_mbh_cls e
theorem z_all_cls {n mn : Nat} {id att mv : Nat → Int32} {j : Nat} {E : String} (h : x_st_isAllowed n id att mn mv j = .inr E) : z_cls E := by
  unfold x_st_isAllowed at h
  split at h
  · repeat' split at h
    all_goals (simp at h)
  · next e =>
    simp only [Sum.inr.injEq] at h
    subst h
    exact z_slot_cls e
theorem z_cls_0 {n : Nat} {id : Nat → Int32} {wt : Nat → Int32} {ag : Nat → Int32} {tg : Nat → Int32} {att : Nat → Int32} {ni : Int32} {xw : Int32} {E : String} (h : (x_st_add n id wt ag tg att ni xw).1 = .inr E) : z_cls E := by
  unfold x_st_add at h
  repeat' split at h
  all_goals first
    | (simp at h; done)
    | (simp only [Sum.inr.injEq] at h; subst h; first | exact Or.inl rfl | exact Or.inr (Or.inl rfl) | exact Or.inr (Or.inr rfl))
    | (simp only [Sum.inr.injEq] at h; subst h; first | exact z_slot_cls (by assumption) | exact z_mbh_cls (by assumption) | exact z_mbw_cls (by assumption) | exact z_slotR_cls (by assumption) | exact z_all_cls (by assumption))
theorem z_clsA_0 {n : Nat} {id : Nat → Int32} {wt : Nat → Int32} {ag : Nat → Int32} {tg : Nat → Int32} {att : Nat → Int32} {ni : Int32} {xa : Int32} {E : String} (h : (x_st_apply0 n id wt ag tg att ni xa).1 = .inr E) : z_cls E := by
  unfold x_st_apply0 at h
  split at h <;> next e =>
    first
    | (simp at h; done)
    | (simp only [Sum.inr.injEq] at h
       subst h
       exact z_cls_0 (congrArg Prod.fst e))
theorem z_cls_1 {n : Nat} {id : Nat → Int32} {wt : Nat → Int32} {ag : Nat → Int32} {tg : Nat → Int32} {att : Nat → Int32} {mn : Nat} {mv : Nat → Int32} {br : Int32} {xid : Int32} {E : String} (h : (x_st_remove n id wt ag tg att mn mv br xid).1 = .inr E) : z_cls E := by
  unfold x_st_remove at h
  repeat' split at h
  all_goals first
    | (simp at h; done)
    | (simp only [Sum.inr.injEq] at h; subst h; first | exact Or.inl rfl | exact Or.inr (Or.inl rfl) | exact Or.inr (Or.inr rfl))
    | (simp only [Sum.inr.injEq] at h; subst h; first | exact z_slot_cls (by assumption) | exact z_mbh_cls (by assumption) | exact z_mbw_cls (by assumption) | exact z_slotR_cls (by assumption) | exact z_all_cls (by assumption))
theorem z_clsA_1 {n : Nat} {id : Nat → Int32} {wt : Nat → Int32} {ag : Nat → Int32} {tg : Nat → Int32} {att : Nat → Int32} {mn : Nat} {mv : Nat → Int32} {br : Int32} {xa : Int32} {E : String} (h : (x_st_apply1 n id wt ag tg att mn mv br xa).1 = .inr E) : z_cls E := by
  unfold x_st_apply1 at h
  split at h <;> next e =>
    first
    | (simp at h; done)
    | (simp only [Sum.inr.injEq] at h
       subst h
       exact z_cls_1 (congrArg Prod.fst e))
theorem z_cls_2 {n : Nat} {id : Nat → Int32} {wt : Nat → Int32} {ag : Nat → Int32} {tg : Nat → Int32} {att : Nat → Int32} {xf : Int32} {xt : Int32} {E : String} (h : (x_st_attack n id wt ag tg att xf xt).1 = .inr E) : z_cls E := by
  unfold x_st_attack at h
  repeat' split at h
  all_goals first
    | (simp at h; done)
    | (simp only [Sum.inr.injEq] at h; subst h; first | exact Or.inl rfl | exact Or.inr (Or.inl rfl) | exact Or.inr (Or.inr rfl))
    | (simp only [Sum.inr.injEq] at h; subst h; first | exact z_slot_cls (by assumption) | exact z_mbh_cls (by assumption) | exact z_mbw_cls (by assumption) | exact z_slotR_cls (by assumption) | exact z_all_cls (by assumption))
theorem z_clsA_2 {n : Nat} {id : Nat → Int32} {wt : Nat → Int32} {ag : Nat → Int32} {tg : Nat → Int32} {att : Nat → Int32} {xa : Int32} {xb : Int32} {E : String} (h : (x_st_apply2 n id wt ag tg att xa xb).1 = .inr E) : z_cls E := by
  unfold x_st_apply2 at h
  split at h <;> next e =>
    first
    | (simp at h; done)
    | (simp only [Sum.inr.injEq] at h
       subst h
       exact z_cls_2 (congrArg Prod.fst e))
theorem z_cls_3 {n : Nat} {id : Nat → Int32} {wt : Nat → Int32} {ag : Nat → Int32} {tg : Nat → Int32} {att : Nat → Int32} {xf : Int32} {xt : Int32} {E : String} (h : (x_st_yieldAttack n id wt ag tg att xf xt).1 = .inr E) : z_cls E := by
  unfold x_st_yieldAttack at h
  repeat' split at h
  all_goals first
    | (simp at h; done)
    | (simp only [Sum.inr.injEq] at h; subst h; first | exact Or.inl rfl | exact Or.inr (Or.inl rfl) | exact Or.inr (Or.inr rfl))
    | (simp only [Sum.inr.injEq] at h; subst h; first | exact z_slot_cls (by assumption) | exact z_mbh_cls (by assumption) | exact z_mbw_cls (by assumption) | exact z_slotR_cls (by assumption) | exact z_all_cls (by assumption))
theorem z_clsA_3 {n : Nat} {id : Nat → Int32} {wt : Nat → Int32} {ag : Nat → Int32} {tg : Nat → Int32} {att : Nat → Int32} {xa : Int32} {xb : Int32} {E : String} (h : (x_st_apply3 n id wt ag tg att xa xb).1 = .inr E) : z_cls E := by
  unfold x_st_apply3 at h
  split at h <;> next e =>
    first
    | (simp at h; done)
    | (simp only [Sum.inr.injEq] at h
       subst h
       exact z_cls_3 (congrArg Prod.fst e))
theorem z_cls_4 {n : Nat} {id : Nat → Int32} {wt : Nat → Int32} {ag : Nat → Int32} {tg : Nat → Int32} {att : Nat → Int32} {xid : Int32} {xw : Int32} {E : String} (h : (x_st_weigh n id wt ag tg att xid xw).1 = .inr E) : z_cls E := by
  unfold x_st_weigh at h
  repeat' split at h
  all_goals first
    | (simp at h; done)
    | (simp only [Sum.inr.injEq] at h; subst h; first | exact Or.inl rfl | exact Or.inr (Or.inl rfl) | exact Or.inr (Or.inr rfl))
    | (simp only [Sum.inr.injEq] at h; subst h; first | exact z_slot_cls (by assumption) | exact z_mbh_cls (by assumption) | exact z_mbw_cls (by assumption) | exact z_slotR_cls (by assumption) | exact z_all_cls (by assumption))
theorem z_clsA_4 {n : Nat} {id : Nat → Int32} {wt : Nat → Int32} {ag : Nat → Int32} {tg : Nat → Int32} {att : Nat → Int32} {xa : Int32} {xb : Int32} {E : String} (h : (x_st_apply4 n id wt ag tg att xa xb).1 = .inr E) : z_cls E := by
  unfold x_st_apply4 at h
  split at h <;> next e =>
    first
    | (simp at h; done)
    | (simp only [Sum.inr.injEq] at h
       subst h
       exact z_cls_4 (congrArg Prod.fst e))
theorem z_cls_5 {n : Nat} {id : Nat → Int32} {wt : Nat → Int32} {ag : Nat → Int32} {tg : Nat → Int32} {att : Nat → Int32} {xid : Int32} {E : String} (h : (x_st_makeNew n id wt ag tg att xid).1 = .inr E) : z_cls E := by
  unfold x_st_makeNew at h
  repeat' split at h
  all_goals first
    | (simp at h; done)
    | (simp only [Sum.inr.injEq] at h; subst h; first | exact Or.inl rfl | exact Or.inr (Or.inl rfl) | exact Or.inr (Or.inr rfl))
    | (simp only [Sum.inr.injEq] at h; subst h; first | exact z_slot_cls (by assumption) | exact z_mbh_cls (by assumption) | exact z_mbw_cls (by assumption) | exact z_slotR_cls (by assumption) | exact z_all_cls (by assumption))
theorem z_clsA_5 {n : Nat} {id : Nat → Int32} {wt : Nat → Int32} {ag : Nat → Int32} {tg : Nat → Int32} {att : Nat → Int32} {xa : Int32} {E : String} (h : (x_st_apply5 n id wt ag tg att xa).1 = .inr E) : z_cls E := by
  unfold x_st_apply5 at h
  split at h <;> next e =>
    first
    | (simp at h; done)
    | (simp only [Sum.inr.injEq] at h
       subst h
       exact z_cls_5 (congrArg Prod.fst e))
theorem z_cls_6 {n : Nat} {id : Nat → Int32} {att : Nat → Int32} {mn : Nat} {mv : Nat → Int32} {xid : Int32} {E : String} (h : (x_st_claim n id att mn mv xid).1 = .inr E) : z_cls E := by
  unfold x_st_claim at h
  repeat' split at h
  all_goals first
    | (simp at h; done)
    | (simp only [Sum.inr.injEq] at h; subst h; first | exact Or.inl rfl | exact Or.inr (Or.inl rfl) | exact Or.inr (Or.inr rfl))
    | (simp only [Sum.inr.injEq] at h; subst h; first | exact z_slot_cls (by assumption) | exact z_mbh_cls (by assumption) | exact z_mbw_cls (by assumption) | exact z_slotR_cls (by assumption) | exact z_all_cls (by assumption))
theorem z_clsA_6 {n : Nat} {id : Nat → Int32} {att : Nat → Int32} {mn : Nat} {mv : Nat → Int32} {xa : Int32} {E : String} (h : (x_st_apply6 n id att mn mv xa).1 = .inr E) : z_cls E := by
  unfold x_st_apply6 at h
  split at h <;> next e =>
    first
    | (simp at h; done)
    | (simp only [Sum.inr.injEq] at h
       subst h
       exact z_cls_6 (congrArg Prod.fst e))
theorem z_cls_7 {n : Nat} {id : Nat → Int32} {att : Nat → Int32} {mn : Nat} {mv : Nat → Int32} {xid : Int32} {E : String} (h : (x_st_reply n id att mn mv xid).1 = .inr E) : z_cls E := by
  unfold x_st_reply at h
  repeat' split at h
  all_goals first
    | (simp at h; done)
    | (simp only [Sum.inr.injEq] at h; subst h; first | exact Or.inl rfl | exact Or.inr (Or.inl rfl) | exact Or.inr (Or.inr rfl))
    | (simp only [Sum.inr.injEq] at h; subst h; first | exact z_slot_cls (by assumption) | exact z_mbh_cls (by assumption) | exact z_mbw_cls (by assumption) | exact z_slotR_cls (by assumption) | exact z_all_cls (by assumption))
theorem z_clsA_7 {n : Nat} {id : Nat → Int32} {att : Nat → Int32} {mn : Nat} {mv : Nat → Int32} {xa : Int32} {E : String} (h : (x_st_apply7 n id att mn mv xa).1 = .inr E) : z_cls E := by
  unfold x_st_apply7 at h
  split at h <;> next e =>
    first
    | (simp at h; done)
    | (simp only [Sum.inr.injEq] at h
       subst h
       exact z_cls_7 (congrArg Prod.fst e))
theorem z_cls_8 {mn : Nat} {E : String} (h : (x_dl_dropLast mn).1 = .inr E) : z_cls E := by
  unfold x_dl_dropLast at h
  repeat' split at h
  all_goals first
    | (simp at h; done)
    | (simp only [Sum.inr.injEq] at h; subst h; first | exact Or.inl rfl | exact Or.inr (Or.inl rfl) | exact Or.inr (Or.inr rfl))
    | (simp only [Sum.inr.injEq] at h; subst h; first | exact z_slot_cls (by assumption) | exact z_mbh_cls (by assumption) | exact z_mbw_cls (by assumption) | exact z_slotR_cls (by assumption) | exact z_all_cls (by assumption))
theorem z_clsA_8 {mn : Nat} {E : String} (h : (x_st_apply8 mn).1 = .inr E) : z_cls E := by
  unfold x_st_apply8 at h
  split at h <;> next e =>
    first
    | (simp at h; done)
    | (simp only [Sum.inr.injEq] at h
       subst h
       exact z_cls_8 (congrArg Prod.fst e))
theorem z_cls_9 {mn : Nat} {en : Int32} {wo : Int32} {E : String} (h : (x_dl_end mn en wo).1 = .inr E) : z_cls E := by
  unfold x_dl_end at h
  repeat' split at h
  all_goals first
    | (simp at h; done)
    | (simp only [Sum.inr.injEq] at h; subst h; first | exact Or.inl rfl | exact Or.inr (Or.inl rfl) | exact Or.inr (Or.inr rfl))
    | (simp only [Sum.inr.injEq] at h; subst h; first | exact z_slot_cls (by assumption) | exact z_mbh_cls (by assumption) | exact z_mbw_cls (by assumption) | exact z_slotR_cls (by assumption) | exact z_all_cls (by assumption))
theorem z_clsA_9 {mn : Nat} {en : Int32} {wo : Int32} {E : String} (h : (x_st_apply9 mn en wo).1 = .inr E) : z_cls E := by
  unfold x_st_apply9 at h
  split at h <;> next e =>
    first
    | (simp at h; done)
    | (simp only [Sum.inr.injEq] at h
       subst h
       exact z_cls_9 (congrArg Prod.fst e))
theorem z_cls_10 {n : Nat} {wt : Nat → Int32} {ag : Nat → Int32} {tg : Nat → Int32} {att : Nat → Int32} {dy : Int32} {ds : Int32} {E : String} (h : (x_st_letPass n wt ag tg att dy ds).1 = .inr E) : z_cls E := by
  unfold x_st_letPass at h
  repeat' split at h
  all_goals first
    | (simp at h; done)
    | (simp only [Sum.inr.injEq] at h; subst h; first | exact Or.inl rfl | exact Or.inr (Or.inl rfl) | exact Or.inr (Or.inr rfl))
    | (simp only [Sum.inr.injEq] at h; subst h; first | exact z_slot_cls (by assumption) | exact z_mbh_cls (by assumption) | exact z_mbw_cls (by assumption) | exact z_slotR_cls (by assumption) | exact z_all_cls (by assumption))
theorem z_clsA_10 {n : Nat} {wt : Nat → Int32} {ag : Nat → Int32} {tg : Nat → Int32} {att : Nat → Int32} {dy : Int32} {xa : Int32} {E : String} (h : (x_st_apply10 n wt ag tg att dy xa).1 = .inr E) : z_cls E := by
  unfold x_st_apply10 at h
  split at h <;> next e =>
    first
    | (simp at h; done)
    | (simp only [Sum.inr.injEq] at h
       subst h
       exact z_cls_10 (congrArg Prod.fst e))
theorem z_apply_cls {k : Nat} (hk : k < 11) {a c : Int32} {s : ZS} {E : String} (h : (x_apply k a c s).1 = .inr E) : z_cls E :=
  match k, hk with
  | 0, _ => z_clsA_0 h
  | 1, _ => z_clsA_1 h
  | 2, _ => z_clsA_2 h
  | 3, _ => z_clsA_3 h
  | 4, _ => z_clsA_4 h
  | 5, _ => z_clsA_5 h
  | 6, _ => z_clsA_6 h
  | 7, _ => z_clsA_7 h
  | 8, _ => z_clsA_8 h
  | 9, _ => z_clsA_9 h
  | 10, _ => z_clsA_10 h
/-- the commands from the i-th on: r may follow -/
def x_exec (vk : Nat → Nat) (oa ob : Nat → Int32) : Nat → Nat → ZS → Int32 × ZS
  | 0, _, s => (-1, s)
  | r + 1, i, s => match x_apply (vk i) (oa i) (ob i) s with
    | (.inl _, s') => x_exec vk oa ob r (i + 1) s'
    | (.inr _, s') => (nI i, s')
set_option maxRecDepth 100000 in
set_option maxHeartbeats 8000000 in
theorem l_exec {g : q_G} {h0 : q_H} {d mc ms pc pp : Nat} {hs : Bool} {se sf po : Int32} {vb oa ob : Nat → Int32} {vk : Nat → Nat} (hvk : ∀ i, i < pc → vb i = nI (vk i) ∧ vk i < 11) (hpc : pc ≤ 16) (hd : 12 ≤ d) (hkc : 64 ≤ mc) (hks : 384 ≤ ms) : ∀ (r i : Nat) (s : ZS) (h : q_H) (sam : z_Am h 100 hs se sf) (sst : z_S2t h 101 s) (spr : z_Pr h 207 pc pp po vb oa ob) (pH : q_same h0 h 101 8) (hk : i + r = pc), q_W g mX10_executeUntilFailure d mc ms (q_chg (.inl (some (.int (x_exec vk oa ob r i s).1))) (fun h1 => z_Am h1 100 hs se sf ∧ z_S2t h1 101 ((x_exec vk oa ob r i s).2) ∧ z_Pr h1 207 pc pp po vb oa ob ∧ q_same h0 h1 101 8)) (4 * i) (24 * i) 2 [.ref 100, .int (nI i), q_u] [] h := by
  intro r
  induction r with
  | zero =>
    intro i s h sam sst spr pH hk
    have hb_pr_pc := spr.bpc
    have hb_pr_pp := spr.bpp
    refine q_iload_n dX10_executeUntilFailure_2 rfl ?_
    refine q_aload_n (by first | assumption | omega | decide | (rw [q_R0e]; omega)) dX10_executeUntilFailure_3 rfl ?_
    refine q_getf (k := 7) (v := .ref (207)) kC_X10 kL_X10_53 rfl (by decide) dX10_executeUntilFailure_4 sam.c0 rfl ?_
    refine q_getf (k := 3) (v := .int (nI (pc))) kC_X7 kL_X10_360 rfl (by decide) dX10_executeUntilFailure_7 spr.c0 rfl ?_
    refine q_icmp_ge 70 dX10_executeUntilFailure_10 (by decide) (fun b10 => ?_) (fun b10 => ?_)
    · have b10 := (nI_leI (a := pc) (b := i) (by omega) (by omega)).mp b10
      refine q_iconst (v := -1) dX10_executeUntilFailure_70 rfl ?_
      have hE : x_exec vk oa ob 0 i s = (-1, s) := by simp only [x_exec]
      rw [hE]
      exact q_ireturn dX10_executeUntilFailure_71 rfl rfl (by omega) (by omega) ⟨rfl, sam, sst, spr, pH⟩
    · have b10 : ¬ (pc ≤ i) := fun q => b10 ((nI_leI (a := pc) (b := i) (by omega) (by omega)).mpr q)
      exact absurd b10 (by omega)
  | succ r ih =>
    intro i s h sam sst spr pH hk
    have hb_pr_pc := spr.bpc
    have hb_pr_pp := spr.bpp
    refine q_iload_n dX10_executeUntilFailure_2 rfl ?_
    refine q_aload_n (by first | assumption | omega | decide | (rw [q_R0e]; omega)) dX10_executeUntilFailure_3 rfl ?_
    refine q_getf (k := 7) (v := .ref (207)) kC_X10 kL_X10_53 rfl (by decide) dX10_executeUntilFailure_4 sam.c0 rfl ?_
    refine q_getf (k := 3) (v := .int (nI (pc))) kC_X7 kL_X10_360 rfl (by decide) dX10_executeUntilFailure_7 spr.c0 rfl ?_
    refine q_icmp_ge 70 dX10_executeUntilFailure_10 (by decide) (fun b10 => ?_) (fun b10 => ?_)
    · have b10 := (nI_leI (a := pc) (b := i) (by omega) (by omega)).mp b10
      exact absurd b10 (by omega)
    · have b10 : ¬ (pc ≤ i) := fun q => b10 ((nI_leI (a := pc) (b := i) (by omega) (by omega)).mpr q)
      refine q_aload_n (by first | assumption | omega | decide | (rw [q_R0e]; omega)) dX10_executeUntilFailure_13 rfl ?_
      refine q_getf (k := 0) (v := .ref (101)) kC_X10 kL_X10_12 rfl (by decide) dX10_executeUntilFailure_14 sam.c0 rfl ?_
      refine q_getstatic (v := .ref (2)) (by simp [q_zs]) kL_X10_381 rfl dX10_executeUntilFailure_17 ?_
      change q_W _ _ _ _ _ _ _ _ 20 [.ref (100), .int (nI (i)), q_u] [.ref (2), .ref (101)] _
      refine q_aload_n (by first | assumption | omega | decide | (rw [q_R0e]; omega)) dX10_executeUntilFailure_20 rfl ?_
      refine q_getf (k := 7) (v := .ref (207)) kC_X10 kL_X10_53 rfl (by decide) dX10_executeUntilFailure_21 sam.c0 rfl ?_
      refine q_getf (k := 0) (v := .ref (208)) kC_X7 kL_X10_385 rfl (by decide) dX10_executeUntilFailure_24 spr.c0 rfl ?_
      refine q_iload_n dX10_executeUntilFailure_27 rfl ?_
      refine q_ialdN (j := i) (f := vb) dX10_executeUntilFailure_28 spr.c1 (by omega) (by decide) ?_
      change q_W _ _ _ _ _ _ _ _ _ _ [.int (vb i), .ref (2), .ref (101)] _
      rw [(hvk i (by omega)).1]
      have hv9 := (hvk i (by omega)).2
      change q_W _ _ _ _ _ _ _ _ _ _ [.int (nI (vk i)), .ref (2), .ref (101)] _
      refine q_taldAN (i := 2) (n := 11) (f := fun j => .ref (3 + j)) (j := vk i) (by decide) dX10_executeUntilFailure_29 rfl (by omega) (by decide) ?_
      change q_W _ _ _ _ _ _ _ _ 30 [.ref (100), .int (nI (i)), q_u] [.ref (3 + (vk i)), .ref (101)] _
      refine q_aload_n (by first | assumption | omega | decide | (rw [q_R0e]; omega)) dX10_executeUntilFailure_30 rfl ?_
      refine q_getf (k := 7) (v := .ref (207)) kC_X10 kL_X10_53 rfl (by decide) dX10_executeUntilFailure_31 sam.c0 rfl ?_
      refine q_getf (k := 1) (v := .ref (209)) kC_X7 kL_X10_388 rfl (by decide) dX10_executeUntilFailure_34 spr.c0 rfl ?_
      refine q_iload_n dX10_executeUntilFailure_37 rfl ?_
      refine q_ialdN (j := i) (f := oa) dX10_executeUntilFailure_38 spr.c2 (by omega) (by decide) ?_
      change q_W _ _ _ _ _ _ _ _ _ _ [.int (oa i), .ref (3 + (vk i)), .ref (101)] _
      refine q_aload_n (by first | assumption | omega | decide | (rw [q_R0e]; omega)) dX10_executeUntilFailure_39 rfl ?_
      refine q_getf (k := 7) (v := .ref (207)) kC_X10 kL_X10_53 rfl (by decide) dX10_executeUntilFailure_40 sam.c0 rfl ?_
      refine q_getf (k := 2) (v := .ref (210)) kC_X7 kL_X10_391 rfl (by decide) dX10_executeUntilFailure_43 spr.c0 rfl ?_
      refine q_iload_n dX10_executeUntilFailure_46 rfl ?_
      refine q_ialdN (j := i) (f := ob) dX10_executeUntilFailure_47 spr.c3 (by omega) (by decide) ?_
      change q_W _ _ _ _ _ _ _ _ _ _ [.int (ob i), .int (oa i), .ref (3 + (vk i)), .ref (101)] _
      rcases x1 : x_apply (vk i) (oa i) (ob i) s with ⟨v1 | e1, y1_s⟩
      · have e9 := e_apply (g := g) (h := h) (d := d - 1) sst (k := vk i) (by omega) (oa i) (ob i) (by omega)
        rw [x1] at e9
        refine q_invV (mc' := 4) (ms' := 24) (d' := d - 1) (as := [.ref (3 + (vk i)), .int (oa i), .int (ob i)]) dX10_executeUntilFailure_48 kM_X8_apply kL_X10_378 kI_X8_apply kS_X8_apply rfl (kC_X8.1) sst.c0 rfl rfl (Nat.le_of_ble_eq_true rfl) (by omega) (by decide) (by omega) (by omega) (e9) (q_kC (fun h2 hB => ?_)) q_xC
        obtain ⟨t2_0, pp2⟩ := hB
        have sst2 := t2_0
        have sam2 := sam.keep pp2 (by omega)
        have spr2 := spr.keep pp2 (by omega)
        have p2 := pH.trans (pp2.wide (by omega) (by omega))
        change q_W _ _ _ _ _ _ _ _ 51 [.ref (100), .int (nI (i)), q_u] [.int (v1)] _
        refine q_pop dX10_executeUntilFailure_51 rfl ?_
        refine q_goto 64 dX10_executeUntilFailure_52 (by decide) ?_
        refine q_iinc (x := nI (i)) (v := nI (i + 1)) dX10_executeUntilFailure_64 rfl (nI_add _ 1) rfl ?_
        change q_W _ _ _ _ _ _ _ _ _ [.ref (100), .int (nI (i + 1)), q_u] [] _
        refine q_goto 2 dX10_executeUntilFailure_67 (by decide) ?_
        have hE : x_exec vk oa ob (r + 1) i s = x_exec vk oa ob r (i + 1) y1_s := by simp only [x_exec, x1]
        rw [hE]
        refine q_widen (kc' := 4 * (i + 1)) (ks' := 24 * (i + 1)) (by omega) (by omega) ?_
        exact ih (i + 1) y1_s h2 sam2 sst2 spr2 p2 (by omega)
      · have e9 := e_apply (g := g) (h := h) (d := d - 1) sst (k := vk i) (by omega) (oa i) (ob i) (by omega)
        rw [x1] at e9
        refine q_invV (mc' := 4) (ms' := 24) (d' := d - 1) (as := [.ref (3 + (vk i)), .int (oa i), .int (ob i)]) dX10_executeUntilFailure_48 kM_X8_apply kL_X10_378 kI_X8_apply kS_X8_apply rfl (kC_X8.1) sst.c0 rfl rfl (Nat.le_of_ble_eq_true rfl) (by omega) (by decide) (by omega) (by omega) (e9) q_kCx (q_xCx (fun h3 hB => ?_))
        obtain ⟨t3_0, pp3⟩ := hB
        have sst3 := t3_0
        have sam3 := sam.keep pp3 (by omega)
        have spr3 := spr.keep pp3 (by omega)
        have p3 := pH.trans (pp3.wide (by omega) (by omega))
        have hE : x_exec vk oa ob (r + 1) i s = (nI (i), y1_s) := by simp only [x_exec, x1]
        rw [hE]
        have hE9 : (x_apply (vk i) (oa i) (ob i) s).1 = .inr e1 := congrArg Prod.fst x1
        rcases z_apply_cls hv9 hE9 with rfl | rfl | rfl
        · refine q_catch (nm := "java/util/NoSuchElementException") [] (13, 52, 55, 159) [(13, 52, 58, 237), (13, 52, 61, 331)] rfl rfl (fun z hz9 => absurd hz9 List.not_mem_nil) (by decide) (by decide) kL_X10_159 kK_NoSuchElementException (k := 2) dX10_executeUntilFailure_55 (by decide) rfl ?_
          change q_W _ _ _ _ _ _ _ _ _ [.ref (100), .int (nI (i)), q_u] [] _
          refine q_iload_n dX10_executeUntilFailure_56 rfl ?_
          exact q_ireturn dX10_executeUntilFailure_57 rfl rfl (by omega) (by omega) ⟨rfl, sam3, sst3, spr3, p3⟩
        · refine q_catch (nm := "java/lang/IllegalArgumentException") [(13, 52, 55, 159)] (13, 52, 58, 237) [(13, 52, 61, 331)] rfl rfl (fun z hz9 => by
              simp only [List.mem_cons, List.not_mem_nil, or_false] at hz9
              rcases hz9 with rfl
              · exact Or.inr ⟨by decide, "java/util/NoSuchElementException", kL_X10_159, by simp [q_nc]⟩) (by decide) (by decide) kL_X10_237 kK_IllegalArgumentException (k := 2) dX10_executeUntilFailure_58 (by decide) rfl ?_
          change q_W _ _ _ _ _ _ _ _ _ [.ref (100), .int (nI (i)), q_u] [] _
          refine q_iload_n dX10_executeUntilFailure_59 rfl ?_
          exact q_ireturn dX10_executeUntilFailure_60 rfl rfl (by omega) (by omega) ⟨rfl, sam3, sst3, spr3, p3⟩
        · refine q_catch (nm := "java/lang/IllegalStateException") [(13, 52, 55, 159), (13, 52, 58, 237)] (13, 52, 61, 331) [] rfl rfl (fun z hz9 => by
              simp only [List.mem_cons, List.not_mem_nil, or_false] at hz9
              rcases hz9 with rfl | rfl
              · exact Or.inr ⟨by decide, "java/util/NoSuchElementException", kL_X10_159, by simp [q_nc]⟩
              · exact Or.inr ⟨by decide, "java/lang/IllegalArgumentException", kL_X10_237, by simp [q_nc]⟩) (by decide) (by decide) kL_X10_331 kK_IllegalStateException (k := 2) dX10_executeUntilFailure_61 (by decide) rfl ?_
          change q_W _ _ _ _ _ _ _ _ _ [.ref (100), .int (nI (i)), q_u] [] _
          refine q_iload_n dX10_executeUntilFailure_62 rfl ?_
          exact q_ireturn dX10_executeUntilFailure_63 rfl rfl (by omega) (by omega) ⟨rfl, sam3, sst3, spr3, p3⟩
theorem e_exec {g : q_G} {h : q_H} {d pc pp : Nat} {hs : Bool} {se sf po : Int32} {vb oa ob : Nat → Int32} {vk : Nat → Nat} {s : ZS} (sam : z_Am h 100 hs se sf) (sst : z_S2t h 101 s) (spr : z_Pr h 207 pc pp po vb oa ob) (hvk : ∀ i, i < pc → vb i = nI (vk i) ∧ vk i < 11) (hd : 12 ≤ d) : q_Spec g mX10_executeUntilFailure d 64 384 [.ref 100] h (q_chg (.inl (some (.int (x_exec vk oa ob pc 0 s).1))) (fun h1 => z_Am h1 100 hs se sf ∧ z_S2t h1 101 ((x_exec vk oa ob pc 0 s).2) ∧ z_Pr h1 207 pc pp po vb oa ob ∧ q_same h h1 101 8)) := by
  refine q_enterH (by decide +kernel) (by decide) rfl (Nat.le_of_ble_eq_true rfl) (fun hz => ?_)
  change q_W _ _ _ _ _ _ _ _ _ [.ref 100, q_u, q_u] [] _
  refine q_iconst (v := 0) dX10_executeUntilFailure_0 rfl ?_
  refine q_istore_n dX10_executeUntilFailure_1 (by decide) rfl ?_
  exact l_exec hvk spr.bpc hd (by omega) (by omega) pc 0 s h sam sst spr q_same.rfl' (by omega)
def x_am_run (se : Int32) (sf : Int32) (s : ZS) (nx : Nat) (kp : Nat) (rw : Nat → ZS) (po : Int32) (vb : Nat → Int32) (oa : Nat → Int32) (ob : Nat → Int32) (ic : Nat) (fi : Nat → Int32) : (Int32 ⊕ String) × (Int32) × (Int32) × (ZS) × (Nat) × (Nat) × (Nat → ZS) × (Nat) × (Nat) × (Int32) × (Nat → Int32) × (Nat → Int32) × (Nat → Int32) × (Nat) := (match x_pr_read po vb oa ob ic fi with | (v1, y1_pc, y1_pp, y1_po, y1_vb, y1_oa, y1_ob) => (if v1 then (let y4_rw := x_hi_begin nx rw s.1 s.2.1 s.2.2.1 s.2.2.2.1 s.2.2.2.2.1 s.2.2.2.2.2.1 s.2.2.2.2.2.2.1 s.2.2.2.2.2.2.2.1 s.2.2.2.2.2.2.2.2.1 s.2.2.2.2.2.2.2.2.2.1 s.2.2.2.2.2.2.2.2.2.2.1 s.2.2.2.2.2.2.2.2.2.2.2.1 s.2.2.2.2.2.2.2.2.2.2.2.2; (match x_exec (fun i => (y1_vb i).toNatClampNeg) y1_oa y1_ob y1_pc 0 s with | (v6, y6_s) => (if (v6) = (-1) then (match x_hi_keep nx kp with | (y8_nx, y8_kp) => (.inl (nI (y1_pc)), se, sf, y6_s, y8_nx, y8_kp, y4_rw, y1_pc, y1_pp, y1_po, y1_vb, y1_oa, y1_ob, 0)) else (match x_st_copyFrom y6_s.2.1 y6_s.2.2.1 y6_s.2.2.2.1 y6_s.2.2.2.2.1 y6_s.2.2.2.2.2.1 y6_s.2.2.2.2.2.2.2.2.2.1 ((y4_rw nx).1) ((y4_rw nx).2.1) ((y4_rw nx).2.2.1) ((y4_rw nx).2.2.2.1) ((y4_rw nx).2.2.2.2.1) ((y4_rw nx).2.2.2.2.2.1) ((y4_rw nx).2.2.2.2.2.2.1) ((y4_rw nx).2.2.2.2.2.2.2.1) ((y4_rw nx).2.2.2.2.2.2.2.2.1) ((y4_rw nx).2.2.2.2.2.2.2.2.2.1) ((y4_rw nx).2.2.2.2.2.2.2.2.2.2.1) ((y4_rw nx).2.2.2.2.2.2.2.2.2.2.2.1) ((y4_rw nx).2.2.2.2.2.2.2.2.2.2.2.2) with | (y10_n, y10_id, y10_wt, y10_ag, y10_tg, y10_att, y10_ni, y10_dy, y10_mn, y10_mv, y10_en, y10_wo, y10_br) => (.inr "java/lang/IllegalStateException", se, v6, (y10_n, y10_id, y10_wt, y10_ag, y10_tg, y10_att, y10_ni, y10_dy, y10_mn, y10_mv, y10_en, y10_wo, y10_br), nx, kp, y4_rw, y1_pc, y1_pp, y1_po, y1_vb, y1_oa, y1_ob, 0))))) else (.inr "java/lang/IllegalArgumentException", nI (y1_pp), sf, s, nx, kp, rw, y1_pc, y1_pp, y1_po, y1_vb, y1_oa, y1_ob, 0)))
set_option maxRecDepth 100000 in
set_option maxHeartbeats 8000000 in
theorem e_am_run {g : q_G} {h : q_H} {d : Nat} {hs : Bool} {se : Int32} {sf : Int32} (sam : z_Am h 100 hs se sf) {s : ZS} (sst : z_S2t h 101 s) {s1 : ZS} (ssv : z_S2t h 109 s1) {s2 : ZS} (slt : z_S2t h 117 s2) {nx : Nat} {kp : Nat} {rw : Nat → ZS} (shs : z_Hs h 125 nx kp rw) {ac : Int32} {rj : Int32} {ro : Nat → Int32} (slb : z_Lb h 199 ac rj ro) {won : Nat → Int32} {lost : Nat → Int32} (sga : z_Ga h 201 won lost) {pf : Nat → Int32} {cv : Nat → Int32} {sc : Nat} (sex : z_Ex h 204 pf cv sc) {pc : Nat} {pp : Nat} {po : Int32} {vb : Nat → Int32} {oa : Nat → Int32} {ob : Nat → Int32} (spr : z_Pr h 207 pc pp po vb oa ob) {ic : Nat} {fi : Nat → Int32} {lc : Nat} {fl : Nat → Int32} (ssb : z_Sbs h 211 ic fi lc fl)     (hd : 13 ≤ d) : q_Spec g mX10_run d 66 676 [.ref (100)] h (q_chg (q_oI (x_am_run se sf s nx kp rw po vb oa ob ic fi).1) (fun h1 => z_Am h1 100 hs ((x_am_run se sf s nx kp rw po vb oa ob ic fi).2.1) ((x_am_run se sf s nx kp rw po vb oa ob ic fi).2.2.1) ∧ z_S2t h1 101 ((x_am_run se sf s nx kp rw po vb oa ob ic fi).2.2.2.1) ∧ z_S2t h1 109 s1 ∧ z_S2t h1 117 s2 ∧ z_Hs h1 125 ((x_am_run se sf s nx kp rw po vb oa ob ic fi).2.2.2.2.1) ((x_am_run se sf s nx kp rw po vb oa ob ic fi).2.2.2.2.2.1) ((x_am_run se sf s nx kp rw po vb oa ob ic fi).2.2.2.2.2.2.1) ∧ z_Lb h1 199 ac rj ro ∧ z_Ga h1 201 won lost ∧ z_Ex h1 204 pf cv sc ∧ z_Pr h1 207 ((x_am_run se sf s nx kp rw po vb oa ob ic fi).2.2.2.2.2.2.2.1) ((x_am_run se sf s nx kp rw po vb oa ob ic fi).2.2.2.2.2.2.2.2.1) ((x_am_run se sf s nx kp rw po vb oa ob ic fi).2.2.2.2.2.2.2.2.2.1) ((x_am_run se sf s nx kp rw po vb oa ob ic fi).2.2.2.2.2.2.2.2.2.2.1) ((x_am_run se sf s nx kp rw po vb oa ob ic fi).2.2.2.2.2.2.2.2.2.2.2.1) ((x_am_run se sf s nx kp rw po vb oa ob ic fi).2.2.2.2.2.2.2.2.2.2.2.2.1) ∧ z_Sbs h1 211 ((x_am_run se sf s nx kp rw po vb oa ob ic fi).2.2.2.2.2.2.2.2.2.2.2.2.2) fi lc fl ∧ q_zone h h1 100 115)) := by
  have hb_hs_nx := shs.bnx
  have hb_hs_kp := shs.bkp
  have hb_ex_sc := sex.bsc
  have hb_pr_pc := spr.bpc
  have hb_pr_pp := spr.bpp
  have hb_sb_ic := ssb.bic
  have hb_sb_lc := ssb.blc
  have ho_hs_nx := shs.bnx
  have ho_hs_kp := shs.bkp
  have ho_ex_sc := sex.bsc
  have ho_pr_pc := spr.bpc
  have ho_pr_pp := spr.bpp
  have ho_sb_ic := ssb.bic
  have ho_sb_lc := ssb.blc
  have p0 : q_zone h h 100 115 := q_zone.rfl'
  have hz9 := ssb.s0
  refine q_enter (by decide +kernel) rfl rfl (Nat.le_of_ble_eq_true rfl) (fun hz => ?_)
  change q_W _ _ _ _ _ _ _ _ _ [.ref (100), q_u, q_u] [] _
  refine q_aload_n (by first | assumption | omega | decide | (rw [q_R0e]; omega)) dX10_run_0 rfl ?_
  refine q_getf (k := 7) (v := .ref (207)) kC_X10 kL_X10_53 rfl (by decide) dX10_run_1 sam.c0 rfl ?_
  refine q_aload_n (by first | assumption | omega | decide | (rw [q_R0e]; omega)) dX10_run_4 rfl ?_
  refine q_getf (k := 8) (v := .ref (211)) kC_X10 kL_X10_60 rfl (by decide) dX10_run_5 sam.c0 rfl ?_
  rcases x1 : x_pr_read po vb oa ob ic fi with ⟨v1, y1_pc, y1_pp, y1_po, y1_vb, y1_oa, y1_ob⟩
  have e9 := e_readS (g := g) (h := h) (d := d - 1) spr ssb (by omega)
  rw [x1] at e9
  refine q_invV (mc' := 0) (ms' := 0) (d' := d - 1) (as := [.ref (211)]) dX10_run_8 kM_X7_read kL_X10_336 kI_X7_read kS_X7_read rfl (kC_X7.1) spr.c0 rfl rfl (Nat.le_of_ble_eq_true rfl) (by omega) (by decide) (by omega) (by omega) (e9) (q_kC (fun h2 hB => ?_)) q_xC
  obtain ⟨t2_0, t2_1, pp2⟩ := hB
  have spr2 := t2_0
  have ssb2 := t2_1
  have sam2 := sam.keep pp2 (by omega)
  have sst2 := sst.keep pp2 (by omega)
  have ssv2 := ssv.keep pp2 (by omega)
  have slt2 := slt.keep pp2 (by omega)
  have shs2 := shs.keep pp2 (by omega)
  have slb2 := slb.keep pp2 (by omega)
  have sga2 := sga.keep pp2 (by omega)
  have sex2 := sex.keep pp2 (by omega)
  have p2 := p0.trans ((pp2.zone (Nat.le_trans hz9 p0.1)).wide (by omega) (by omega))
  have hb_pr_pc : y1_pc ≤ 16 := spr2.bpc
  have hb_pr_pp : y1_pp ≤ 60 := spr2.bpp
  change q_W _ _ _ _ _ _ _ _ 11 [.ref (100), q_u, q_u] [.int (z_b (v1))] _
  refine q_istore_n dX10_run_11 (by decide) rfl ?_
  change q_W _ _ _ _ _ _ _ _ _ [.ref (100), .int (z_b (v1)), q_u] [] _
  refine q_aload_n (by first | assumption | omega | decide | (rw [q_R0e]; omega)) dX10_run_12 rfl ?_
  refine q_getf (k := 8) (v := .ref (211)) kC_X10 kL_X10_60 rfl (by decide) dX10_run_13 sam2.c0 rfl ?_
  refine q_iconst (v := 0) dX10_run_16 rfl ?_
  obtain ⟨fs9, hc9⟩ := ssb2.celli
  refine q_invV (mc' := 1) (ms' := 286) (d' := d - 1) (as := [.int (0)]) dX10_run_17 kM_J4_setLength_d00df kL_X10_304 kI_J4_setLength_d00df kS_J4_setLength_d00df rfl (kC_J4.1) hc9 rfl rfl (Nat.le_of_ble_eq_true rfl) (by omega) (by decide) (by omega) (by omega) (e_input0 (d := d - 1) ssb2 (by omega)) (q_kC (fun h3 hB => ?_)) q_xC
  obtain ⟨t3_0, pp3⟩ := hB
  have ssb3 := t3_0
  have sam3 := sam2.keepZ pp3 (by omega)
  have sst3 := sst2.keepZ pp3 (by omega)
  have ssv3 := ssv2.keepZ pp3 (by omega)
  have slt3 := slt2.keepZ pp3 (by omega)
  have shs3 := shs2.keepZ pp3 (by omega)
  have slb3 := slb2.keepZ pp3 (by omega)
  have sga3 := sga2.keepZ pp3 (by omega)
  have sex3 := sex2.keepZ pp3 (by omega)
  have spr3 := spr2.keepZ pp3 (by omega)
  have p3 := p2.trans (pp3.wide (by omega) (by omega))
  have hb_sb_lc := ssb3.blc
  change q_W _ _ _ _ _ _ _ _ 20 [.ref (100), .int (z_b (v1)), q_u] [] _
  refine q_iload_n dX10_run_20 rfl ?_
  refine q_if_ne 46 dX10_run_21 (by decide) (fun b21 => ?_) (fun b21 => ?_)
  · have b21 := z_b1 b21
    refine q_aload_n (by first | assumption | omega | decide | (rw [q_R0e]; omega)) dX10_run_46 rfl ?_
    refine q_getf (k := 3) (v := .ref (125)) kC_X10 kL_X10_25 rfl (by decide) dX10_run_47 sam3.c0 rfl ?_
    refine q_aload_n (by first | assumption | omega | decide | (rw [q_R0e]; omega)) dX10_run_50 rfl ?_
    refine q_getf (k := 0) (v := .ref (101)) kC_X10 kL_X10_12 rfl (by decide) dX10_run_51 sam3.c0 rfl ?_
    obtain ⟨y4_rw, x4⟩ : ∃ z, x_hi_begin nx rw s.1 s.2.1 s.2.2.1 s.2.2.2.1 s.2.2.2.2.1 s.2.2.2.2.2.1 s.2.2.2.2.2.2.1 s.2.2.2.2.2.2.2.1 s.2.2.2.2.2.2.2.2.1 s.2.2.2.2.2.2.2.2.2.1 s.2.2.2.2.2.2.2.2.2.2.1 s.2.2.2.2.2.2.2.2.2.2.2.1 s.2.2.2.2.2.2.2.2.2.2.2.2 = z := ⟨_, rfl⟩
    have e9 := e_hi_begin (g := g) (h := h3) (d := d - 1) shs3 (sst3) (by omega)
    rw [x4] at e9
    refine q_invV (mc' := 0) (ms' := 0) (d' := d - 1) (as := [.ref (101)]) dX10_run_54 kM_X5_begin kL_X10_345 kI_X5_begin kS_X5_begin rfl (kC_X5.1) shs3.c0 rfl rfl (Nat.le_of_ble_eq_true rfl) (by omega) (by decide) (by omega) (by omega) (e9) (q_kC (fun h5 hB => ?_)) q_xC
    obtain ⟨t5_0, t5_1, pp5⟩ := hB
    have shs5 := t5_0
    have sam5 := sam3.keep pp5 (by omega)
    have sst5 := sst3.keep pp5 (by omega)
    have ssv5 := ssv3.keep pp5 (by omega)
    have slt5 := slt3.keep pp5 (by omega)
    have slb5 := slb3.keep pp5 (by omega)
    have sga5 := sga3.keep pp5 (by omega)
    have sex5 := sex3.keep pp5 (by omega)
    have spr5 := spr3.keep pp5 (by omega)
    have ssb5 := ssb3.keep pp5 (by omega)
    have p5 := p3.trans ((pp5.zone (Nat.le_trans hz9 p3.1)).wide (by omega) (by omega))
    have hb_hs_nx := shs5.bnx
    have hb_hs_kp := shs5.bkp
    change q_W _ _ _ _ _ _ _ _ 57 [.ref (100), .int (z_b (v1)), q_u] [] _
    refine q_aload_n (by first | assumption | omega | decide | (rw [q_R0e]; omega)) dX10_run_57 rfl ?_
    rcases x6 : x_exec (fun i => (y1_vb i).toNatClampNeg) y1_oa y1_ob y1_pc 0 s with ⟨v6, y6_s⟩
    have e9 := e_exec (g := g) (h := h5) (d := d - 1) (vk := (fun i => (y1_vb i).toNatClampNeg)) sam5 sst5 spr5 (z_read_vk x1 b21) (by omega)
    rw [x6] at e9
    refine q_invVH (mc' := 64) (ms' := 384) (d' := d - 1) (as := []) dX10_run_58 kM_X10_executeUntilFailure kL_X10_348 kI_X10_executeUntilFailure kS_X10_executeUntilFailure rfl rfl (kC_X10.1) sam5.c0 rfl rfl (Nat.le_of_ble_eq_true rfl) (by omega) (by decide) (by omega) (by omega) (e9) (q_kC (fun h7 hB => ?_)) q_xC
    obtain ⟨t7_0, t7_1, t7_2, pp7⟩ := hB
    have sam7 := t7_0
    have sst7 := t7_1
    have spr7 := t7_2
    have ssv7 := ssv5.keep pp7 (by omega)
    have slt7 := slt5.keep pp7 (by omega)
    have shs7 := shs5.keep pp7 (by omega)
    have slb7 := slb5.keep pp7 (by omega)
    have sga7 := sga5.keep pp7 (by omega)
    have sex7 := sex5.keep pp7 (by omega)
    have ssb7 := ssb5.keep pp7 (by omega)
    have p7 := p5.trans ((pp7.zone (Nat.le_trans hz9 p5.1)).wide (by omega) (by omega))
    change q_W _ _ _ _ _ _ _ _ 61 [.ref (100), .int (z_b (v1)), q_u] [.int (v6)] _
    refine q_istore_n dX10_run_61 (by decide) rfl ?_
    change q_W _ _ _ _ _ _ _ _ _ [.ref (100), .int (z_b (v1)), .int (v6)] [] _
    refine q_iload_n dX10_run_62 rfl ?_
    refine q_iconst (v := -1) dX10_run_63 rfl ?_
    refine q_icmp_eq 97 dX10_run_64 (by decide) (fun b64 => ?_) (fun b64 => ?_)
    · refine q_aload_n (by first | assumption | omega | decide | (rw [q_R0e]; omega)) dX10_run_97 rfl ?_
      refine q_getf (k := 3) (v := .ref (125)) kC_X10 kL_X10_25 rfl (by decide) dX10_run_98 sam7.c0 rfl ?_
      rcases x8 : x_hi_keep nx kp with ⟨y8_nx, y8_kp⟩
      have e9 := e_hi_keep (g := g) (h := h7) (d := d - 1) shs7 (by omega)
      rw [x8] at e9
      refine q_invV (mc' := 0) (ms' := 0) (d' := d - 1) (as := []) dX10_run_101 kM_X5_keep kL_X10_357 kI_X5_keep kS_X5_keep rfl (kC_X5.1) shs7.c0 rfl rfl (Nat.le_of_ble_eq_true rfl) (by omega) (by decide) (by omega) (by omega) (e9) (q_kC (fun h9 hB => ?_)) q_xC
      obtain ⟨t9_0, pp9⟩ := hB
      have shs9 := t9_0
      have sam9 := sam7.keep pp9 (by omega)
      have sst9 := sst7.keep pp9 (by omega)
      have ssv9 := ssv7.keep pp9 (by omega)
      have slt9 := slt7.keep pp9 (by omega)
      have slb9 := slb7.keep pp9 (by omega)
      have sga9 := sga7.keep pp9 (by omega)
      have sex9 := sex7.keep pp9 (by omega)
      have spr9 := spr7.keep pp9 (by omega)
      have ssb9 := ssb7.keep pp9 (by omega)
      have p9 := p7.trans ((pp9.zone (Nat.le_trans hz9 p7.1)).wide (by omega) (by omega))
      have hb_hs_nx : y8_nx ≤ 8 := shs9.bnx
      have hb_hs_kp : y8_kp ≤ 8 := shs9.bkp
      change q_W _ _ _ _ _ _ _ _ 104 [.ref (100), .int (z_b (v1)), .int (v6)] [] _
      refine q_aload_n (by first | assumption | omega | decide | (rw [q_R0e]; omega)) dX10_run_104 rfl ?_
      refine q_getf (k := 7) (v := .ref (207)) kC_X10 kL_X10_53 rfl (by decide) dX10_run_105 sam9.c0 rfl ?_
      refine q_getf (k := 3) (v := .int (nI (y1_pc))) kC_X7 kL_X10_360 rfl (by decide) dX10_run_108 spr9.c0 rfl ?_
      have hE : x_am_run se sf s nx kp rw po vb oa ob ic fi = (.inl (nI (y1_pc)), se, sf, y6_s, y8_nx, y8_kp, y4_rw, y1_pc, y1_pp, y1_po, y1_vb, y1_oa, y1_ob, 0) := by simp only [x_am_run, x1, if_pos b21, x4, x6, if_pos b64, x8]
      rw [hE]
      exact q_ireturn dX10_run_111 rfl rfl (by omega) (by omega) ⟨rfl, sam9, sst9, ssv9, slt9, shs9, slb9, sga9, sex9, spr9, ssb9, p9⟩
    · refine q_aload_n (by first | assumption | omega | decide | (rw [q_R0e]; omega)) dX10_run_67 rfl ?_
      refine q_getf (k := 0) (v := .ref (101)) kC_X10 kL_X10_12 rfl (by decide) dX10_run_68 sam7.c0 rfl ?_
      refine q_aload_n (by first | assumption | omega | decide | (rw [q_R0e]; omega)) dX10_run_71 rfl ?_
      refine q_getf (k := 3) (v := .ref (125)) kC_X10 kL_X10_25 rfl (by decide) dX10_run_72 sam7.c0 rfl ?_
      refine q_invV (mc' := 0) (ms' := 0) (d' := d - 1) (as := []) dX10_run_75 kM_X5_draft kL_X10_351 kI_X5_draft kS_X5_draft rfl (kC_X5.1) shs7.c0 rfl rfl (Nat.le_of_ble_eq_true rfl) (by omega) (by decide) (by omega) (by omega) (e_hi_draft (d := d - 1) shs7 (by omega)) (q_kR ?_) q_xR
      change q_W _ _ _ _ _ _ _ _ 78 [.ref (100), .int (z_b (v1)), .int (v6)] [.ref (127 + 8 * nx), .ref (101)] _
      rcases x10 : x_st_copyFrom y6_s.2.1 y6_s.2.2.1 y6_s.2.2.2.1 y6_s.2.2.2.2.1 y6_s.2.2.2.2.2.1 y6_s.2.2.2.2.2.2.2.2.2.1 ((y4_rw nx).1) ((y4_rw nx).2.1) ((y4_rw nx).2.2.1) ((y4_rw nx).2.2.2.1) ((y4_rw nx).2.2.2.2.1) ((y4_rw nx).2.2.2.2.2.1) ((y4_rw nx).2.2.2.2.2.2.1) ((y4_rw nx).2.2.2.2.2.2.2.1) ((y4_rw nx).2.2.2.2.2.2.2.2.1) ((y4_rw nx).2.2.2.2.2.2.2.2.2.1) ((y4_rw nx).2.2.2.2.2.2.2.2.2.2.1) ((y4_rw nx).2.2.2.2.2.2.2.2.2.2.2.1) ((y4_rw nx).2.2.2.2.2.2.2.2.2.2.2.2) with ⟨y10_n, y10_id, y10_wt, y10_ag, y10_tg, y10_att, y10_ni, y10_dy, y10_mn, y10_mv, y10_en, y10_wo, y10_br⟩
      have e9 := e_st_copyFrom (g := g) (h := h7) (d := d - 1) (sst7) (shs7.row (r := nx) (by first | omega | (split <;> omega))) (by omega) (by omega)
      rw [x10] at e9
      refine q_invV (mc' := 0) (ms' := 0) (d' := d - 1) (as := [.ref (127 + 8 * nx)]) dX10_run_78 kM_X8_copyFrom kL_X10_229 kI_X8_copyFrom kS_X8_copyFrom rfl (kC_X8.1) sst7.c0 rfl rfl (Nat.le_of_ble_eq_true rfl) (by omega) (by decide) (by omega) (by omega) (e9) (q_kC (fun h11 hB => ?_)) q_xC
      obtain ⟨t11_0, t11_1, pp11⟩ := hB
      have sst11 := t11_0
      have sam11 := sam7.keep pp11 (by omega)
      have ssv11 := ssv7.keep pp11 (by omega)
      have slt11 := slt7.keep pp11 (by omega)
      have shs11 := shs7.keep pp11 (by omega)
      have slb11 := slb7.keep pp11 (by omega)
      have sga11 := sga7.keep pp11 (by omega)
      have sex11 := sex7.keep pp11 (by omega)
      have spr11 := spr7.keep pp11 (by omega)
      have ssb11 := ssb7.keep pp11 (by omega)
      have p11 := p7.trans ((pp11.zone (Nat.le_trans hz9 p7.1)).wide (by omega) (by omega))
      change q_W _ _ _ _ _ _ _ _ 81 [.ref (100), .int (z_b (v1)), .int (v6)] [] _
      refine q_aload_n (by first | assumption | omega | decide | (rw [q_R0e]; omega)) dX10_run_81 rfl ?_
      refine q_iload_n dX10_run_82 rfl ?_
      refine q_putf (k := 12) kC_X10 kL_X10_75 rfl (by decide) rfl dX10_run_83 sam11.c0 (Nat.le_of_ble_eq_true rfl) ⟨rfl, rfl⟩ rfl ?_
      refine z_genW (B := fun H => z_Am H 100 hs se v6 ∧ z_S2t H 101 (y10_n, y10_id, y10_wt, y10_ag, y10_tg, y10_att, y10_ni, y10_dy, y10_mn, y10_mv, y10_en, y10_wo, y10_br) ∧ z_S2t H 109 s1 ∧ z_S2t H 117 s2 ∧ z_Hs H 125 nx kp y4_rw ∧ z_Lb H 199 ac rj ro ∧ z_Ga H 201 won lost ∧ z_Ex H 204 pf cv sc ∧ z_Pr H 207 y1_pc y1_pp y1_po y1_vb y1_oa y1_ob ∧ z_Sbs H 211 0 fi lc fl ∧ q_zone h H 100 115) ⟨z_Am.put0 sam11 (hs' := hs), sst11.keep (q_same.set (a := 100) (k := 1) (Nat.le_refl _) (by omega)) (by omega), ssv11.keep (q_same.set (a := 100) (k := 1) (Nat.le_refl _) (by omega)) (by omega), slt11.keep (q_same.set (a := 100) (k := 1) (Nat.le_refl _) (by omega)) (by omega), shs11.keep (q_same.set (a := 100) (k := 1) (Nat.le_refl _) (by omega)) (by omega), slb11.keep (q_same.set (a := 100) (k := 1) (Nat.le_refl _) (by omega)) (by omega), sga11.keep (q_same.set (a := 100) (k := 1) (Nat.le_refl _) (by omega)) (by omega), sex11.keep (q_same.set (a := 100) (k := 1) (Nat.le_refl _) (by omega)) (by omega), spr11.keep (q_same.set (a := 100) (k := 1) (Nat.le_refl _) (by omega)) (by omega), ssb11.keep (q_same.set (a := 100) (k := 1) (Nat.le_refl _) (by omega)) (by omega), p11.trans (q_zone.set (by omega))⟩ (fun h12 hB => ?_)
      obtain ⟨sam12, sst12, ssv12, slt12, shs12, slb12, sga12, sex12, spr12, ssb12, p12⟩ := hB
      have hE : x_am_run se sf s nx kp rw po vb oa ob ic fi = (.inr "java/lang/IllegalStateException", se, v6, (y10_n, y10_id, y10_wt, y10_ag, y10_tg, y10_att, y10_ni, y10_dy, y10_mn, y10_mv, y10_en, y10_wo, y10_br), nx, kp, y4_rw, y1_pc, y1_pp, y1_po, y1_vb, y1_oa, y1_ob, 0) := by simp only [x_am_run, x1, if_pos b21, x4, x6, if_neg b64, x10]
      rw [hE]
      refine q_throwW kE_X10_335 kR_X10_355 rfl dX10_run_86 dX10_run_89 dX10_run_90 dX10_run_93 dX10_run_96 (Nat.le_of_ble_eq_true rfl) (by omega) (by omega) (by omega) ?_
      exact q_xout rfl ⟨rfl, sam12.keep (q_same.skip (a := 0) (k := 0)) (by omega), sst12.keep (q_same.skip (a := 0) (k := 0)) (by omega), ssv12.keep (q_same.skip (a := 0) (k := 0)) (by omega), slt12.keep (q_same.skip (a := 0) (k := 0)) (by omega), shs12.keep (q_same.skip (a := 0) (k := 0)) (by omega), slb12.keep (q_same.skip (a := 0) (k := 0)) (by omega), sga12.keep (q_same.skip (a := 0) (k := 0)) (by omega), sex12.keep (q_same.skip (a := 0) (k := 0)) (by omega), spr12.keep (q_same.skip (a := 0) (k := 0)) (by omega), ssb12.keep (q_same.skip (a := 0) (k := 0)) (by omega), p12.trans (q_zone.skip (Nat.le_trans hz9 p12.1))⟩ (by omega) (by omega)
  · have b21 := z_b0n b21
    refine q_aload_n (by first | assumption | omega | decide | (rw [q_R0e]; omega)) dX10_run_24 rfl ?_
    refine q_aload_n (by first | assumption | omega | decide | (rw [q_R0e]; omega)) dX10_run_25 rfl ?_
    refine q_getf (k := 7) (v := .ref (207)) kC_X10 kL_X10_53 rfl (by decide) dX10_run_26 sam3.c0 rfl ?_
    refine q_getf (k := 4) (v := .int (nI (y1_pp))) kC_X7 kL_X10_340 rfl (by decide) dX10_run_29 spr3.c0 rfl ?_
    refine q_putf (k := 11) kC_X10 kL_X10_71 rfl (by decide) rfl dX10_run_32 sam3.c0 (Nat.le_of_ble_eq_true rfl) ⟨rfl, rfl⟩ rfl ?_
    refine z_genW (B := fun H => z_Am H 100 hs (nI (y1_pp)) sf ∧ z_S2t H 101 s ∧ z_S2t H 109 s1 ∧ z_S2t H 117 s2 ∧ z_Hs H 125 nx kp rw ∧ z_Lb H 199 ac rj ro ∧ z_Ga H 201 won lost ∧ z_Ex H 204 pf cv sc ∧ z_Pr H 207 y1_pc y1_pp y1_po y1_vb y1_oa y1_ob ∧ z_Sbs H 211 0 fi lc fl ∧ q_zone h H 100 115) ⟨z_Am.put0 sam3 (hs' := hs), sst3.keep (q_same.set (a := 100) (k := 1) (Nat.le_refl _) (by omega)) (by omega), ssv3.keep (q_same.set (a := 100) (k := 1) (Nat.le_refl _) (by omega)) (by omega), slt3.keep (q_same.set (a := 100) (k := 1) (Nat.le_refl _) (by omega)) (by omega), shs3.keep (q_same.set (a := 100) (k := 1) (Nat.le_refl _) (by omega)) (by omega), slb3.keep (q_same.set (a := 100) (k := 1) (Nat.le_refl _) (by omega)) (by omega), sga3.keep (q_same.set (a := 100) (k := 1) (Nat.le_refl _) (by omega)) (by omega), sex3.keep (q_same.set (a := 100) (k := 1) (Nat.le_refl _) (by omega)) (by omega), spr3.keep (q_same.set (a := 100) (k := 1) (Nat.le_refl _) (by omega)) (by omega), ssb3.keep (q_same.set (a := 100) (k := 1) (Nat.le_refl _) (by omega)) (by omega), p3.trans (q_zone.set (by omega))⟩ (fun h13 hB => ?_)
    obtain ⟨sam13, sst13, ssv13, slt13, shs13, slb13, sga13, sex13, spr13, ssb13, p13⟩ := hB
    have hE : x_am_run se sf s nx kp rw po vb oa ob ic fi = (.inr "java/lang/IllegalArgumentException", nI (y1_pp), sf, s, nx, kp, rw, y1_pc, y1_pp, y1_po, y1_vb, y1_oa, y1_ob, 0) := by simp only [x_am_run, x1, if_neg b21]
    rw [hE]
    refine q_throwW kE_X10_241 kR_X10_343 rfl dX10_run_35 dX10_run_38 dX10_run_39 dX10_run_42 dX10_run_45 (Nat.le_of_ble_eq_true rfl) (by omega) (by omega) (by omega) ?_
    exact q_xout rfl ⟨rfl, sam13.keep (q_same.skip (a := 0) (k := 0)) (by omega), sst13.keep (q_same.skip (a := 0) (k := 0)) (by omega), ssv13.keep (q_same.skip (a := 0) (k := 0)) (by omega), slt13.keep (q_same.skip (a := 0) (k := 0)) (by omega), shs13.keep (q_same.skip (a := 0) (k := 0)) (by omega), slb13.keep (q_same.skip (a := 0) (k := 0)) (by omega), sga13.keep (q_same.skip (a := 0) (k := 0)) (by omega), sex13.keep (q_same.skip (a := 0) (k := 0)) (by omega), spr13.keep (q_same.skip (a := 0) (k := 0)) (by omega), ssb13.keep (q_same.skip (a := 0) (k := 0)) (by omega), p13.trans (q_zone.skip (Nat.le_trans hz9 p13.1))⟩ (by omega) (by omega)