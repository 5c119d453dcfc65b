/-! heights of the stack, code by code -/
def hst (t : Nat) (x : Cd) : Nat := if x.1 ≤ 1 then t + 1 else if x.1 = 10 then t else t - 1
def hg (t : Nat) (C : List Cd) : Nat := C.foldl hst t
theorem hg_app (t : Nat) (C D : List Cd) : hg t (C ++ D) = hg (hg t C) D := by unfold hg; rw [List.foldl_append]
/-- codes of a sum: from height t to t + 1, never above B -/
def okS (B t : Nat) (x : Cd) : Prop := (x.1 = 0 ∧ x.2.1 < 1000000 ∧ t < B) ∨ (x.1 = 1 ∧ x.2.1 < 13 ∧ t < B) ∨ (2 ≤ x.1 ∧ x.1 ≤ 6 ∧ 2 ≤ t ∧ t ≤ B)
def SHs (B t : Nat) (C : List Cd) : Prop := (∀ i x, C[i]? = some x → okS B (hg t (C.take i)) x) ∧ hg t C = t + 1
theorem SHs.op {B t : Nat} {C D : List Cd} {O : Nat} (a : SHs B t C) (b : SHs B (t + 1) D) (ho : 2 ≤ O ∧ O ≤ 6) (hB : t + 2 ≤ B) (ht : 0 ≤ t) : SHs B t (C ++ D ++ [(O, 0, 0, 0)]) := by
  obtain ⟨a1, a2⟩ := a
  obtain ⟨b1, b2⟩ := b
  have e1 : hg t (C ++ D) = t + 2 := by rw [hg_app, a2, b2]
  refine ⟨fun i x hx => ?_, ?_⟩
  · by_cases c1 : i < C.length
    · rw [List.append_assoc, List.getElem?_append_left c1] at hx
      rw [List.append_assoc, List.take_append_of_le_length (by omega)]
      exact a1 i x hx
    · by_cases c2 : i < (C ++ D).length
      · rw [List.getElem?_append_left c2, List.getElem?_append_right (by omega)] at hx
        rw [List.take_append_of_le_length (by omega), List.take_append, List.take_of_length_le (by omega), hg_app, a2]
        exact b1 _ x hx
      · rw [List.getElem?_append_right (by omega)] at hx
        have z0 : i - (C ++ D).length = 0 := by
          refine Classical.byContradiction fun zz => ?_
          rw [List.getElem?_eq_none (by simp only [List.length_singleton]; omega)] at hx
          cases hx
        rw [z0] at hx
        simp at hx
        subst hx
        rw [List.take_append_of_le_length (by omega), List.take_of_length_le (by omega), e1]
        exact Or.inr (Or.inr ⟨ho.1, ho.2, by omega, by omega⟩)
  · rw [hg_app, e1]
    show hst (t + 2) (O, 0, 0, 0) = t + 1
    unfold hst
    simp only
    rw [if_neg (by omega), if_neg (by omega)]
    omega
