/-! statements -/
def junk : Value := .retAddr 0
def kill (E : En) (i : Nat) : En := match i with
  | 0 => E
  | j + 1 => match E[j]? with
    | some v => if v.category = 2 then E.set j junk else E
    | none => E
def st1 (E : En) (i : Nat) (v : Value) : En := (kill E i).set i v
def st2 (E : En) (i : Nat) (v : Value) : En := ((kill E i).set i v).set (i + 1) junk
def sI (i : Nat) (a : DI) : Sm := fun E h => (a E h).bind fun x => some (0, .null, st1 E i (.int x.1), x.2)
def sR (i : Nat) (a : DR) : Sm := fun E h => (a E h).bind fun x => some (0, .null, st1 E i (.ref x.1), x.2)
def sL (i : Nat) (a : DL) : Sm := fun E h => (a E h).bind fun x => some (0, .null, st2 E i (.long x.1), x.2)
def sC (i : Nat) (k : Int32) : Sm := fun E h => (ldI i E h).bind fun x => some (0, .null, st1 E i (.int (x.1 + k)), x.2)
def sk : Sm := fun E h => some (0, .null, E, h)
def sbr : Sm := fun E h => some (3, .null, E, h)
def sco : Sm := fun E h => some (4, .null, E, h)
def sq (a b : Sm) : Sm := fun E h => (a E h).bind fun r => if r.1 = 0 then b r.2.2.1 r.2.2.2 else some r
def si (c : DC) (a b : Sm) : Sm := fun E h => (c E h).bind fun x => if x.1 = true then a E x.2 else b E x.2
def rV : Sm := fun E h => some (1, .null, E, h)
def rI (a : DI) : Sm := fun E h => (a E h).bind fun x => some (2, .int x.1, E, x.2)
def rR (a : DR) : Sm := fun E h => (a E h).bind fun x => some (2, .ref x.1, E, x.2)
def rL (a : DL) : Sm := fun E h => (a E h).bind fun x => some (2, .long x.1, E, x.2)
/-- a loop, at most n times round -/
def lpN (c : DC) (b s : Sm) : Nat → Sm
  | 0 => fun _ _ => none
  | n + 1 => fun E h => (c E h).bind fun x => if x.1 = true then (b E x.2).bind fun r => if r.1 = 0 ∨ r.1 = 4 then (s r.2.2.1 r.2.2.2).bind fun q => if q.1 = 0 then lpN c b s n q.2.2.1 q.2.2.2 else none else if r.1 = 3 then some (0, .null, r.2.2.1, r.2.2.2) else some r else some (0, .null, E, x.2)
theorem lpN_mono {c : DC} {b s : Sm} : ∀ (n k : Nat) (E : En) (h : Hp) (r : Rs), lpN c b s n E h = some r → lpN c b s (n + k) E h = some r := by
  intro n
  induction n with
  | zero => intro k E h r e; cases e
  | succ n ih =>
    intro k E h r e
    rw [show n + 1 + k = (n + k) + 1 by omega]
    unfold lpN at e ⊢
    obtain ⟨x, e1, e⟩ := bind_some2 e
    rw [e1]
    show (if x.1 = true then _ else _) = _
    split at e
    · rename_i hx
      rw [if_pos hx]
      obtain ⟨y, e2, e⟩ := bind_some2 e
      rw [e2]
      show (if y.1 = 0 ∨ y.1 = 4 then _ else _) = _
      split at e
      · rename_i hy
        rw [if_pos hy]
        obtain ⟨q, e3, e⟩ := bind_some2 e
        rw [e3]
        show (if q.1 = 0 then _ else _) = _
        split at e
        · rename_i hq
          rw [if_pos hq]
          exact ih k _ _ _ e
        · cases e
      · rename_i hy
        rw [if_neg hy]
        exact e
    · rename_i hx
      rw [if_neg hx]
      exact e
theorem lpN_det {c : DC} {b s : Sm} {n m : Nat} {E : En} {h : Hp} {r q : Rs} (h1 : lpN c b s n E h = some r) (h2 : lpN c b s m E h = some q) : r = q := by
  have a1 := lpN_mono n m E h r h1
  have a2 := lpN_mono m n E h q h2
  rw [Nat.add_comm] at a2
  exact Option.some.inj (a1.symm.trans a2)
/-- a loop, as often as it goes -/
noncomputable def lp (c : DC) (b s : Sm) : Sm := fun E h => @dite (Option Rs) (∃ r n, lpN c b s n E h = some r) (Classical.propDecidable _) (fun hx => some hx.choose) (fun _ => none)
theorem lp_of {c : DC} {b s : Sm} {n : Nat} {E : En} {h : Hp} {r : Rs} (e : lpN c b s n E h = some r) : lp c b s E h = some r := by
  have hx : ∃ r n, lpN c b s n E h = some r := ⟨r, n, e⟩
  unfold lp
  rw [dif_pos hx]
  obtain ⟨m, hm⟩ := hx.choose_spec
  exact congrArg some (lpN_det hm e)
theorem lp_to {c : DC} {b s : Sm} {E : En} {h : Hp} {r : Rs} (e : lp c b s E h = some r) : ∃ n, lpN c b s n E h = some r := by
  unfold lp at e
  split at e
  · rename_i hx
    cases e
    exact hx.choose_spec
  · cases e
/-- once round -/
theorem lp_eq (c : DC) (b s : Sm) (E : En) (h : Hp) : lp c b s E h = (c E h).bind fun x => if x.1 = true then (b E x.2).bind fun r => if r.1 = 0 ∨ r.1 = 4 then (s r.2.2.1 r.2.2.2).bind fun q => if q.1 = 0 then lp c b s q.2.2.1 q.2.2.2 else none else if r.1 = 3 then some (0, .null, r.2.2.1, r.2.2.2) else some r else some (0, .null, E, x.2) := by
  refine Option.ext fun r => ⟨fun e => ?_, fun e => ?_⟩
  · obtain ⟨n, e⟩ := lp_to e
    cases n with
    | zero => cases e
    | succ n =>
      unfold lpN at e
      obtain ⟨x, e1, e⟩ := bind_some2 e
      rw [e1]
      show (if x.1 = true then _ else _) = _
      split at e
      · rename_i hx
        rw [if_pos hx]
        obtain ⟨y, e2, e⟩ := bind_some2 e
        rw [e2]
        show (if y.1 = 0 ∨ y.1 = 4 then _ else _) = _
        split at e
        · rename_i hy
          rw [if_pos hy]
          obtain ⟨q, e3, e⟩ := bind_some2 e
          rw [e3]
          show (if q.1 = 0 then _ else _) = _
          split at e
          · rename_i hq
            rw [if_pos hq]
            exact lp_of e
          · cases e
        · rename_i hy
          rw [if_neg hy]
          exact e
      · rename_i hx
        rw [if_neg hx]
        exact e
  · obtain ⟨x, e1, e⟩ := bind_some2 e
    split at e
    · rename_i hx
      obtain ⟨y, e2, e⟩ := bind_some2 e
      split at e
      · rename_i hy
        obtain ⟨q, e3, e⟩ := bind_some2 e
        split at e
        · rename_i hq
          obtain ⟨n, e⟩ := lp_to e
          refine lp_of (n := n + 1) ?_
          unfold lpN
          rw [e1]
          show (if x.1 = true then _ else _) = _
          rw [if_pos hx, e2]
          show (if y.1 = 0 ∨ y.1 = 4 then _ else _) = _
          rw [if_pos hy, e3]
          show (if q.1 = 0 then _ else _) = _
          rw [if_pos hq]
          exact e
        · cases e
      · rename_i hy
        refine lp_of (n := 1) ?_
        unfold lpN
        rw [e1]
        show (if x.1 = true then _ else _) = _
        rw [if_pos hx, e2]
        show (if y.1 = 0 ∨ y.1 = 4 then _ else _) = _
        rw [if_neg hy]
        exact e
    · rename_i hx
      refine lp_of (n := 1) ?_
      unfold lpN
      rw [e1]
      show (if x.1 = true then _ else _) = _
      rw [if_neg hx]
      exact e
section LOCALS
variable {G : GG} {nL : Nat}
def lE (G : GG) (E : En) : List (Nat × Value) := (List.range E.length).filterMap fun i => (E[i]?).bind fun v => if okv v = true then some (i, rv G v) else none
theorem lE_mem {E : En} {q : Nat × Value} : q ∈ lE G E ↔ ∃ v, E[q.1]? = some v ∧ okv v = true ∧ q.2 = rv G v := by
  unfold lE
  rw [List.mem_filterMap]
  constructor
  · rintro ⟨i, -, e⟩
    obtain ⟨v, e1, e2⟩ := bind_some2 e
    split at e2
    · rename_i hv
      cases e2
      exact ⟨v, e1, hv, rfl⟩
    · cases e2
  · rintro ⟨v, e1, hv, e2⟩
    refine ⟨q.1, List.mem_range.mpr (List.getElem?_eq_some_iff.mp e1).1, ?_⟩
    rw [e1]
    show (if okv v = true then some (q.1, rv G v) else none) = some q
    rw [if_pos hv, ← e2]
theorem LR.has {E : En} {ls : Array Slot} (h : LR G nL E ls) : lv_has ls nL (lE G E) := ⟨h.1, h.2.1, fun q hq => by
  obtain ⟨v, e1, hv, e2⟩ := lE_mem.mp hq
  rw [e2]
  exact h.2.2 _ v e1 hv⟩
theorem rv_cat (v : Value) : (rv G v).category = v.category := by cases v <;> rfl
theorem kill_get {E : En} {i j : Nat} {u : Value} (hj : j ≠ i) (e : (kill E i)[j]? = some u) (hu : okv u = true) : E[j]? = some u ∧ ¬ (j + 1 = i ∧ u.category = 2) := by
  unfold kill at e
  cases i with
  | zero => exact ⟨e, fun q => by omega⟩
  | succ i =>
    dsimp only at e
    split at e
    · rename_i v hv
      split at e
      · rename_i hc
        by_cases hji : i = j
        · subst hji
          have hl := (List.getElem?_eq_some_iff.mp hv).1
          rw [List.getElem?_set_self hl] at e
          cases e
          cases hu
        · rw [List.getElem?_set_ne hji] at e
          exact ⟨e, fun q => by omega⟩
      · rename_i hc
        refine ⟨e, fun q => ?_⟩
        have : j = i := by omega
        subst this
        rw [hv] at e
        cases e
        exact hc q.2
    · rename_i hv
      refine ⟨e, fun q => ?_⟩
      have : j = i := by omega
      subst this
      rw [hv] at e
      cases e
theorem LR.put1 {E : En} {ls ls' : Array Slot} {i : Nat} {v w : Value} (hw : w = rv G v) (h : LR G nL E ls) (h' : lv_has ls' nL ((i, w) :: (lE G E).filter (fun q => !(q.1 == i) && !(q.1 + 1 == i && q.2.category == 2)))) : LR G nL (st1 E i v) ls' := by
  refine ⟨h'.1, h'.2.1, fun j u e hu => ?_⟩
  unfold st1 at e
  by_cases hj : i = j
  · subst hj
    have hu2 : u = v := by
      have hl : i < (kill E i).length := by
        have := (List.getElem?_eq_some_iff.mp e).1
        simpa using this
      rw [List.getElem?_set_self hl] at e
      cases e
      rfl
    rw [hu2, ← hw]
    exact h'.2.2 (i, w) List.mem_cons_self
  · rw [List.getElem?_set_ne hj] at e
    obtain ⟨e1, e2⟩ := kill_get (fun q => hj q.symm) e hu
    refine h'.2.2 (j, rv G u) (List.mem_cons_of_mem _ (List.mem_filter.mpr ⟨lE_mem.mpr ⟨u, e1, hu, rfl⟩, ?_⟩))
    simp only [Bool.and_eq_true, Bool.not_eq_true', beq_eq_false_iff_ne, ne_eq, Bool.and_eq_false_iff, rv_cat]
    refine ⟨fun q => hj q.symm, ?_⟩
    by_cases hq : j + 1 = i
    · exact Or.inr (fun z => e2 ⟨hq, z⟩)
    · exact Or.inl hq
theorem LR.put2 {E : En} {ls ls' : Array Slot} {i : Nat} {v w : Value} (hw : w = rv G v) (h : LR G nL E ls) (h' : lv_has ls' nL ((i, w) :: (lE G E).filter (fun q => !(q.1 == i) && (!(q.1 == i + 1) && !(q.1 + 1 == i && q.2.category == 2))))) : LR G nL (st2 E i v) ls' := by
  refine ⟨h'.1, h'.2.1, fun j u e hu => ?_⟩
  unfold st2 at e
  by_cases hj1 : i + 1 = j
  · subst hj1
    have hl : i + 1 < ((kill E i).set i v).length := by
      have := (List.getElem?_eq_some_iff.mp e).1
      simpa using this
    rw [List.getElem?_set_self hl] at e
    cases e
    cases hu
  rw [List.getElem?_set_ne hj1] at e
  by_cases hj : i = j
  · subst hj
    have hu2 : u = v := by
      have hl : i < (kill E i).length := by
        have := (List.getElem?_eq_some_iff.mp e).1
        simpa using this
      rw [List.getElem?_set_self hl] at e
      cases e
      rfl
    rw [hu2, ← hw]
    exact h'.2.2 (i, w) List.mem_cons_self
  · rw [List.getElem?_set_ne hj] at e
    obtain ⟨e1, e2⟩ := kill_get (fun q => hj q.symm) e hu
    refine h'.2.2 (j, rv G u) (List.mem_cons_of_mem _ (List.mem_filter.mpr ⟨lE_mem.mpr ⟨u, e1, hu, rfl⟩, ?_⟩))
    simp only [Bool.and_eq_true, Bool.not_eq_true', beq_eq_false_iff_ne, ne_eq, Bool.and_eq_false_iff, rv_cat]
    refine ⟨fun q => hj q.symm, fun q => hj1 q.symm, ?_⟩
    by_cases hq : j + 1 = i
    · exact Or.inr (fun z => e2 ⟨hq, z⟩)
    · exact Or.inl hq
end LOCALS
