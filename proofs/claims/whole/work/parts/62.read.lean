/-! the pure reader: conditions go on too -/
theorem GO_cpr {s : Nat → Nat} {e : Nat} (hs : ∀ p, e ≤ p → s p = 0) (r : Nat) : GO e (cprP s r) := by
  intro p p' C h
  unfold cprP at h
  cases hi : sumP s r p with
  | error f => rw [hi] at h; cases h
  | ok x =>
    obtain ⟨q, D⟩ := x
    rw [hi] at h
    simp only at h
    by_cases c : cmpP (s q) = 0
    · rw [if_pos c] at h; cases h
    · rw [if_neg c] at h
      cases hj : sumP s r (q + 1) with
      | error f => rw [hj] at h; cases h
      | ok y =>
        obtain ⟨q2, D2⟩ := y
        rw [hj] at h
        cases h
        obtain ⟨h1, h2, h3⟩ := GO_sum hs r _ _ _ hi
        obtain ⟨i1, i2, i3⟩ := GO_sum hs r _ _ _ hj
        simp only [List.length_append, List.length_singleton]
        omega
def GO2 (e : Nat) (F : Nat → Nat → Rd) : Prop := ∀ p k p' C, F p k = .ok (p', C) → p < p' ∧ p' ≤ e ∧ C.length + p ≤ p'
theorem joinP_b {s : Nat → Nat} {e c op : Nat} {F : Nat → Nat → Rd} (hF : GO2 e F) : ∀ n p k p' l C, joinP s c op F n p k = .ok (p', l, C) → p < p' ∧ p' ≤ e ∧ C.length + p ≤ p' ∧ l ≤ C.length := by
  intro n
  induction n with
  | zero => intro p k p' l C h; unfold joinP at h; cases h
  | succ n ih =>
    intro p k p' l C h
    unfold joinP at h
    cases hi : F p k with
    | error f => rw [hi] at h; cases h
    | ok x =>
      obtain ⟨q, D⟩ := x
      rw [hi] at h
      simp only at h
      obtain ⟨h1, h2, h3⟩ := hF _ _ _ _ hi
      by_cases c1 : s q = c
      · rw [if_pos c1] at h
        cases hj : joinP s c op F n (q + 1) (k + D.length + 1) with
        | error f => rw [hj] at h; cases h
        | ok y =>
          obtain ⟨q2, l2, D2⟩ := y
          rw [hj] at h
          cases h
          obtain ⟨i1, i2, i3, i4⟩ := ih _ _ _ _ _ hj
          simp only [List.length_append, List.length_cons]
          omega
      · rw [if_neg c1] at h
        cases h
        exact ⟨h1, h2, h3, Nat.le_refl _⟩
theorem GO_join {s : Nat → Nat} {e c op : Nat} {F : Nat → Nat → Rd} (hF : GO2 e F) : GO2 e (joinR s c op F) := by
  intro p k p' C h
  unfold joinR at h
  cases hi : joinP s c op F 200 p k with
  | error f => rw [hi] at h; cases h
  | ok x =>
    obtain ⟨q, l, D⟩ := x
    rw [hi] at h
    cases h
    obtain ⟨h1, h2, h3, -⟩ := joinP_b hF _ _ _ _ _ _ hi
    exact ⟨h1, h2, h3⟩
theorem GO_pce {s : Nat → Nat} {e : Nat} (hs : ∀ p, e ≤ p → s p = 0) : ∀ r, GO2 e (pceP s r) := by
  intro r
  induction r with
  | zero =>
    intro p k p' C h
    unfold pceP at h
    by_cases c : s p = 33 ∨ s p = 40
    · rw [if_pos c] at h; cases h
    · rw [if_neg c] at h; exact GO_cpr hs 0 _ _ _ h
  | succ r ih =>
    intro p k p' C h
    unfold pceP at h
    by_cases c : s p = 33
    · rw [if_pos c] at h
      cases hi : pceP s r (p + 1) k with
      | error f => rw [hi] at h; cases h
      | ok x =>
        obtain ⟨q, D⟩ := x
        rw [hi] at h
        cases h
        obtain ⟨h1, h2, h3⟩ := ih _ _ _ _ hi
        simp only [List.length_append, List.length_singleton]
        omega
    · rw [if_neg c] at h
      by_cases c2 : s p = 40
      · rw [if_pos c2] at h
        cases hi : cndP s (pceP s r) (p + 1) k with
        | error f => rw [hi] at h; cases h
        | ok x =>
          obtain ⟨q, D⟩ := x
          rw [hi] at h
          simp only at h
          by_cases c3 : s q = 41
          · rw [if_pos c3] at h
            cases h
            obtain ⟨h1, h2, h3⟩ := GO_join (GO_join ih) _ _ _ _ hi
            have := lt_e (p := q) hs (by rw [c3]; omega)
            omega
          · rw [if_neg c3] at h; cases h
      · rw [if_neg c2] at h; exact GO_cpr hs _ _ _ _ h
theorem GO_cnd {s : Nat → Nat} {e : Nat} (hs : ∀ p, e ≤ p → s p = 0) (r : Nat) : GO2 e (cndP s (pceP s r)) := GO_join (GO_join (GO_pce hs r))
