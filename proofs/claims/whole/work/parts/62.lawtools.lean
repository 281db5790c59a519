theorem q_L.store2 {g : q_G} {mls' : Array Slot} {nL : Nat} {L : List Value} (hg : ∀ i, g.2.2.2.2.1 i = .null ∨ ∃ a : Nat, g.2.2.2.2.1 i = .ref a) (hl : L.length = nL) {i : Nat} {v : Value} (hok : q_ok1 L i = true) (hi : i + 1 < nL)
    (h : lv_has mls' nL ((i, q_tV g v) :: (q_pairs g L).filter (fun q => !(q.1 == i) && (!(q.1 == i + 1) && !(q.1 + 1 == i && q.2.category == 2))))) : q_L g mls' nL ((L.set (i + 1) q_u).set i v) := by
  refine ⟨h.1, by rw [List.length_set, List.length_set]; exact hl, h.2.1, fun j w hj hu => ?_⟩
  by_cases hji : j = i
  · subst hji
    have hw : w = v := by
      rw [List.getElem?_set_self (by rw [List.length_set]; omega)] at hj
      exact (Option.some.inj hj).symm
    subst hw
    exact h.2.2 (j, q_tV g w) List.mem_cons_self
  · rw [List.getElem?_set_ne (fun q => hji q.symm)] at hj
    by_cases hj1 : j = i + 1
    · subst hj1
      rw [List.getElem?_set_self (by omega)] at hj
      exact absurd (Option.some.inj hj).symm hu
    · rw [List.getElem?_set_ne (fun q => hj1 q.symm)] at hj
      refine h.2.2 (j, q_tV g w) (List.mem_cons_of_mem _ (List.mem_filter.mpr ⟨q_pairs_mem hj hu, ?_⟩))
      have h1 : (j == i) = false := by simpa using hji
      have h0 : (j == i + 1) = false := by simpa using hj1
      by_cases h2 : j + 1 = i
      · subst h2
        have hc : ¬ (q_tV g w).category = 2 := by
          simp only [q_ok1, hj] at hok
          cases w with
          | long x => simp at hok
          | double x => simp at hok
          | ref x => simp [q_catref hg]
          | _ => simp [q_tV, Value.category]
        simp [h1, h0, hc]
      · have h3 : (j + 1 == i) = false := by simpa using h2
        simp [h1, h0, h3]
theorem q_dstore {g : q_G} {M : q_M} {d mc ms : Nat} {Q : q_O → q_H → Prop} {kc ks pc : Nat} {ls st : List Value} {h : q_H} {i : Nat} {x : UInt64} (hd : decode M.2.1 pc = .ok (.dstore i, 2)) (hi : i + 1 < M.2.2.1) (hok : q_ok1 ls i = true) (kk : q_W g M d mc ms Q kc ks (pc + 2) ((ls.set (i + 1) q_u).set i (.double x)) (st) h) : q_W g M d mc ms Q kc ks (pc) ls (.double x :: st) h := fun p e s m args below meth c H locs mls C hR hS hL => lv_dstore C.1 C.2.1 hd hL.has hi rfl (fun ls1 h1 => kk p e s m args below meth c H locs ls1 C hR hS (q_L.store2 C.2.2.2.2.2.2.2.1.2.2.2.2.2.2.2.2.2.2 hL.2.1 hok hi h1))
theorem z_outL_same {o : q_O} {f : Nat → Int64} {h : q_H} : q_same h (z_outL o f h) 223 1 := by
  unfold z_outL
  split
  · exact q_same.set (by omega) (by omega)
  · exact q_same.rfl'
theorem z_outD_same {o : q_O} {f : Nat → UInt64} {h : q_H} : q_same h (z_outD o f h) 224 1 := by
  unfold z_outD
  split
  · exact q_same.set (by omega) (by omega)
  · exact q_same.set (by omega) (by omega)
  · exact q_same.rfl'
theorem z_outL_c {o : q_O} {f : Nat → Int64} {h : q_H} (hc : h.2 223 = some (.inl (4, 1, .inr (.inl f)))) : ∃ f', (z_outL o f h).2 223 = some (.inl (4, 1, .inr (.inl f'))) ∧ ∀ v, o = .inl (some (.int v)) → f' 0 = v.toInt64 := by
  unfold z_outL
  split
  · next v => exact ⟨_, q_set_eq, fun w e => by cases e; exact if_pos rfl⟩
  · next hn => exact ⟨f, hc, fun w e => absurd e (hn w)⟩
theorem z_outD_c {o : q_O} {f : Nat → UInt64} {h : q_H} (hc : h.2 224 = some (.inl (5, 1, .inr (.inr (.inr (.inl f)))))) : ∃ f', (z_outD o f h).2 224 = some (.inl (5, 1, .inr (.inr (.inr (.inl f'))))) ∧ (∀ v, o = .inl (some (.double v)) → f' 0 = v) ∧ ∀ v, o = .inl (some (.float v)) → f' 0 = FP.f2d v := by
  unfold z_outD
  split
  · next v => exact ⟨_, q_set_eq, fun w e => (by cases e; exact if_pos rfl), fun w e => (nomatch e)⟩
  · next v => exact ⟨_, q_set_eq, fun w e => (nomatch e), fun w e => (by cases e; exact if_pos rfl)⟩
  · next h1 h2 => exact ⟨f, hc, fun w e => absurd e (h1 w), fun w e => absurd e (h2 w)⟩
theorem z_lcmp (x : Int64) : lg_cmp x x = 0 := by
  unfold lg_cmp
  rw [if_neg (fun c => Int64.lt_irrefl c), if_pos rfl]
/-- the whole state at the head of the loop, t calls done -/
def z_I (t : Nat) (h : q_H) : Prop :=
  ∃ (hs : Bool) (se : Int32) (sf : Int32) (s : ZS) (s1 : ZS) (nx : Nat) (kp : Nat) (rw : Nat → ZS) (ic : Nat) (fi : Nat → Int32) (lc : Nat) (fl : Nat → Int32) (al : Nat → Int32) (cg : Nat) (sv : Bool) (ad : Nat → Int32) (ln : Nat → Int32) (lz : Nat) (ip : Nat → Int32) (ty : Nat) (ea : Int32) (fa : Int32), z_C h hs se sf s s1 nx kp rw ic fi lc fl ∧ (∃ th, z_M h th al cg sv ad ln lz ip ty ea fa) ∧ (∃ f, h.2 223 = some (.inl (4, 1, .inr (.inl f)))) ∧ (∃ f, h.2 224 = some (.inl (5, 1, .inr (.inr (.inr (.inl f)))))) ∧ z_J t hs se sf s s1 nx kp rw ic fi lc fl al cg sv ad ln lz ip ty ea fa