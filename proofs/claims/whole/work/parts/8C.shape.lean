/-! heights of the stack, code by code -/
def hst (t : Nat) (x : Cd) : Nat := if x.1 ≤ 1 then t + 1 else if x.1 = 10 then t else t - 1
def hg (t : Nat) (C : List Cd) : Nat := C.foldl hst t
theorem hg_app (t : Nat) (C D : List Cd) : hg t (C ++ D) = hg (hg t C) D := by unfold hg; rw [List.foldl_append]
/-- codes of a sum: from height t to t + 1, never above B -/
def okS (B t : Nat) (x : Cd) : Prop := (x.1 = 0 ∧ x.2.1 < 1000000 ∧ t < B) ∨ (x.1 = 1 ∧ x.2.1 < 13 ∧ t < B) ∨ (2 ≤ x.1 ∧ x.1 ≤ 6 ∧ 2 ≤ t ∧ t ≤ B)
def SHs (B t : Nat) (C : List Cd) : Prop := (∀ i x, C[i]? = some x → okS B (hg t (C.take i)) x) ∧ hg t C = t + 1
theorem SHs.op {B t : Nat} {C D : List Cd} {O : Nat} (a : SHs B t C) (b : SHs B (t + 1) D) (ho : 2 ≤ O ∧ O ≤ 6) (hB : t + 2 ≤ B) (ht : 0 ≤ t) : SHs B t (C ++ D ++ [(O, 0, 0, 0)]) := by
  obtain ⟨a1, a2⟩ := a
  obtain ⟨b1, b2⟩ := b
  have e1 : hg t (C ++ D) = t + 2 := by rw [hg_app, a2, b2]
  refine ⟨fun i x hx => ?_, ?_⟩
  · by_cases c1 : i < C.length
    · rw [List.append_assoc, List.getElem?_append_left c1] at hx
      rw [List.append_assoc, List.take_append_of_le_length (by omega)]
      exact a1 i x hx
    · by_cases c2 : i < (C ++ D).length
      · rw [List.getElem?_append_left c2, List.getElem?_append_right (by omega)] at hx
        rw [List.take_append_of_le_length (by omega), List.take_append, List.take_of_length_le (by omega), hg_app, a2]
        exact b1 _ x hx
      · rw [List.getElem?_append_right (by omega)] at hx
        have z0 : i - (C ++ D).length = 0 := by
          refine Classical.byContradiction fun zz => ?_
          rw [List.getElem?_eq_none (by simp only [List.length_singleton]; omega)] at hx
          cases hx
        rw [z0] at hx
        simp at hx
        subst hx
        rw [List.take_append_of_le_length (by omega), List.take_of_length_le (by omega), e1]
        exact Or.inr (Or.inr ⟨ho.1, ho.2, by omega, by omega⟩)
  · rw [hg_app, e1]
    show hst (t + 2) (O, 0, 0, 0) = t + 1
    unfold hst
    simp only
    rw [if_neg (by omega), if_neg (by omega)]
    omega
theorem SH_tail {s : Nat → Nat} {B w : Nat} {g : Nat → Bool} {F : Nat → Rd} (hg : ∀ p, g (s p) = true → 2 ≤ opP (s p) ∧ opP (s p) ≤ 6) (hw : 1 ≤ w) (hF : ∀ p p' C t, F p = .ok (p', C) → t + w ≤ B → SHs B t C) : ∀ n p C p' C' t, SHs B t C → t + 1 + w ≤ B → tailP s g F n p C = .ok (p', C') → SHs B t C' := by
  intro n
  induction n with
  | zero => intro p C p' C' t a _ h; unfold tailP at h; cases h; exact a
  | succ n ih =>
    intro p C p' C' t a hb h
    unfold tailP at h
    by_cases c : g (s p) = true
    · rw [if_pos c] at h
      cases hi : F (p + 1) with
      | error f => rw [hi] at h; cases h
      | ok x =>
        obtain ⟨q, D⟩ := x
        rw [hi] at h
        simp only at h
        exact ih _ _ _ _ t (a.op (hF _ _ _ (t + 1) hi (by omega)) (hg p c) (by omega) (by omega)) hb h
    · rw [if_neg c] at h
      cases h
      exact a
theorem SH_chain {s : Nat → Nat} {B w : Nat} {g : Nat → Bool} {F : Nat → Rd} (hg : ∀ p, g (s p) = true → 2 ≤ opP (s p) ∧ opP (s p) ≤ 6) (hw : 1 ≤ w) (hF : ∀ p p' C t, F p = .ok (p', C) → t + w ≤ B → SHs B t C) : ∀ p p' C t, chainP s g F p = .ok (p', C) → t + (w + 1) ≤ B → SHs B t C := by
  intro p p' C t h hb
  unfold chainP at h
  cases hi : F p with
  | error f => rw [hi] at h; cases h
  | ok x =>
    obtain ⟨q, D⟩ := x
    rw [hi] at h
    exact SH_tail hg hw hF _ _ _ _ _ t (hF _ _ _ t hi (by omega)) (by omega) h
theorem SHs.one {B t op v : Nat} (h : okS B t (op, v, 0, 0)) (ho : op ≤ 1) : SHs B t [(op, v, 0, 0)] := by
  refine ⟨fun i x hx => ?_, ?_⟩
  · cases i with
    | zero => simp at hx; subst hx; exact h
    | succ i => simp at hx
  · show hst t (op, v, 0, 0) = t + 1
    unfold hst
    rw [if_pos ho]
theorem SH_fct {s : Nat → Nat} {B w : Nat} {I : Nat → Rd} (hw : 1 ≤ w) (hI : ∀ p p' C t, I p = .ok (p', C) → t + w ≤ B → SHs B t C) : ∀ p p' C t, fctP s I p = .ok (p', C) → t + w ≤ B → SHs B t C := by
  intro p p' C t h hb
  unfold fctP at h
  by_cases c1 : s p = 91
  · rw [if_pos c1] at h
    cases hi : I p with
    | error f => rw [hi] at h; cases h
    | ok x =>
      obtain ⟨q, D⟩ := x
      rw [hi] at h
      simp only at h
      by_cases c2 : s q = 93
      · rw [if_pos c2] at h
        cases h
        exact hI _ _ _ t hi hb
      · rw [if_neg c2] at h; cases h
  · rw [if_neg c1] at h
    by_cases c2 : isD (s p) = true
    · rw [if_pos c2] at h
      by_cases c3 : isD (s (numP s 6 p 0).1) = true
      · rw [if_pos c3] at h; cases h
      · rw [if_neg c3] at h
        cases h
        exact SHs.one (Or.inl ⟨rfl, numP_6 p, by omega⟩) (by omega)
    · rw [if_neg c2] at h
      by_cases c3 : ltrP (s p) < 13
      · rw [if_pos c3] at h
        cases h
        exact SHs.one (Or.inr (Or.inl ⟨rfl, c3, by omega⟩)) (by omega)
      · rw [if_neg c3] at h; cases h
theorem SH_sum {s : Nat → Nat} (hs : ∀ p, s p < 256) {B : Nat} : ∀ r p p' C t, sumP s r p = .ok (p', C) → t + (2 * r + 3) ≤ B → SHs B t C := by
  intro r
  induction r with
  | zero =>
    intro p p' C t h hb
    exact SH_chain (w := 2) (fun p z => (hg_add _ (hs p) z).2.2) (by omega) (SH_chain (w := 1) (fun p z => (hg_mul _ (hs p) z).2.2) (by omega) (SH_fct (w := 1) (by omega) fun p p' C t h => by cases h)) p p' C t h (by omega)
  | succ r ih =>
    intro p p' C t h hb
    exact SH_chain (w := 2 * r + 4) (fun p z => (hg_add _ (hs p) z).2.2) (by omega) (SH_chain (w := 2 * r + 3) (fun p z => (hg_mul _ (hs p) z).2.2) (by omega) (SH_fct (w := 2 * r + 3) (by omega) fun p p' C t h hb => ih (p + 1) p' C t h hb)) p p' C t h (by omega)
