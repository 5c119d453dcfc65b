/-! the pure reader: it goes on, and writes no more codes than it takes bytes -/
def GO (e : Nat) (F : Nat → Rd) : Prop := ∀ p p' C, F p = .ok (p', C) → p < p' ∧ p' ≤ e ∧ C.length + p ≤ p'
theorem isD_0 : isD 0 = false := by decide
theorem numP_b {s : Nat → Nat} {e : Nat} (hs : ∀ p, e ≤ p → s p = 0) : ∀ n p v, p ≤ e → p ≤ (numP s n p v).1 ∧ (numP s n p v).1 ≤ e ∧ (isD (s p) = true → 0 < n → p < (numP s n p v).1) := by
  intro n
  induction n with
  | zero => intro p v hp; exact ⟨Nat.le_refl _, hp, fun _ z => by omega⟩
  | succ n ih =>
    intro p v hp
    unfold numP
    by_cases c : isD (s p) = true
    · rw [if_pos c]
      have : p < e := by
        refine Classical.byContradiction fun z => ?_
        rw [hs p (by omega), isD_0] at c
        cases c
      obtain ⟨h1, h2, -⟩ := ih (p + 1) (10 * v + (s p - 48)) (by omega)
      exact ⟨by omega, h2, fun _ _ => by omega⟩
    · rw [if_neg c]
      exact ⟨Nat.le_refl _, hp, fun z => absurd z c⟩
theorem lt_e {s : Nat → Nat} {e p : Nat} (hs : ∀ p, e ≤ p → s p = 0) (h : s p ≠ 0) : p < e := Classical.byContradiction fun z => h (hs p (by omega))
theorem GO_fct {s : Nat → Nat} {e : Nat} (hs : ∀ p, e ≤ p → s p = 0) {I : Nat → Rd} (hI : ∀ p p' C, I p = .ok (p', C) → p + 1 < p' ∧ p' ≤ e ∧ C.length + p + 1 ≤ p') : GO e (fctP s I) := by
  intro p p' C h
  unfold fctP at h
  by_cases c1 : s p = 91
  · rw [if_pos c1] at h
    cases hi : I p with
    | error f => rw [hi] at h; cases h
    | ok x =>
      obtain ⟨q, D⟩ := x
      rw [hi] at h
      simp only at h
      by_cases c2 : s q = 93
      · rw [if_pos c2] at h
        cases h
        obtain ⟨h1, h2, h3⟩ := hI p q C hi
        have := lt_e (p := q) hs (by rw [c2]; omega)
        omega
      · rw [if_neg c2] at h; cases h
  · rw [if_neg c1] at h
    by_cases c2 : isD (s p) = true
    · rw [if_pos c2] at h
      have hp : p < e := lt_e hs fun z => by rw [z, isD_0] at c2; cases c2
      obtain ⟨n1, n2, n3⟩ := numP_b hs 6 p 0 (by omega)
      by_cases c3 : isD (s (numP s 6 p 0).1) = true
      · rw [if_pos c3] at h; cases h
      · rw [if_neg c3] at h
        cases h
        have := n3 c2 (by omega)
        simp only [List.length_singleton]
        omega
    · rw [if_neg c2] at h
      by_cases c3 : ltrP (s p) < 13
      · rw [if_pos c3] at h
        cases h
        have := lt_e (p := p) hs fun z => by rw [z] at c3; exact absurd c3 (by decide)
        simp only [List.length_singleton]
        omega
      · rw [if_neg c3] at h; cases h
theorem tailP_b {s : Nat → Nat} {e : Nat} {g : Nat → Bool} {F : Nat → Rd} (hF : GO e F) : ∀ n p C p' C', p ≤ e → tailP s g F n p C = .ok (p', C') → p ≤ p' ∧ p' ≤ e ∧ C'.length + p ≤ C.length + p' := by
  intro n
  induction n with
  | zero => intro p C p' C' hp h; unfold tailP at h; cases h; exact ⟨Nat.le_refl _, hp, by omega⟩
  | succ n ih =>
    intro p C p' C' hp h
    unfold tailP at h
    by_cases c : g (s p) = true
    · rw [if_pos c] at h
      cases hi : F (p + 1) with
      | error f => rw [hi] at h; cases h
      | ok x =>
        obtain ⟨q, D⟩ := x
        rw [hi] at h
        simp only at h
        obtain ⟨h1, h2, h3⟩ := hF _ _ _ hi
        obtain ⟨i1, i2, i3⟩ := ih _ _ _ _ h2 h
        simp only [List.length_append, List.length_singleton] at i3
        omega
    · rw [if_neg c] at h
      cases h
      exact ⟨Nat.le_refl _, hp, by omega⟩
theorem GO_chain {s : Nat → Nat} {e : Nat} {g : Nat → Bool} {F : Nat → Rd} (hF : GO e F) : GO e (chainP s g F) := by
  intro p p' C h
  unfold chainP at h
  cases hi : F p with
  | error f => rw [hi] at h; cases h
  | ok x =>
    obtain ⟨q, D⟩ := x
    rw [hi] at h
    simp only at h
    obtain ⟨h1, h2, h3⟩ := hF _ _ _ hi
    obtain ⟨i1, i2, i3⟩ := tailP_b hF _ _ _ _ _ h2 h
    omega
theorem GO_sum {s : Nat → Nat} {e : Nat} (hs : ∀ p, e ≤ p → s p = 0) : ∀ r, GO e (sumP s r) := by
  intro r
  induction r with
  | zero => exact GO_chain (GO_chain (GO_fct hs fun p p' C h => by cases h))
  | succ r ih =>
    refine GO_chain (GO_chain (GO_fct hs fun p p' C h => ?_))
    have := ih _ _ _ h
    omega
