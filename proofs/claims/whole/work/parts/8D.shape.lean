/-! conditions are well shaped -/
/-- the code ahead of place i leaves 0 or 1 -/
def isB (x : Cd) : Bool := decide (7 ≤ x.1 ∧ x.1 ≤ 10)
def bC (C : List Cd) : Nat → Bool
  | 0 => false
  | i + 1 => ((C[i]?).map isB).getD false
theorem bC_s (C : List Cd) (i : Nat) : bC C (i + 1) = ((C[i]?).map isB).getD false := rfl
def hgC (C : List Cd) (i : Nat) : Nat := hg 0 (C.take i)
def OKc (k : Nat) (C : List Cd) (i : Nat) (x : Cd) : Prop := (((x.1 = 0 ∧ x.2.1 < 1000000) ∨ (x.1 = 1 ∧ x.2.1 < 13)) ∧ hgC C i < 60) ∨ ((2 ≤ x.1 ∧ x.1 ≤ 9) ∧ 2 ≤ hgC C i ∧ hgC C i ≤ 60) ∨ (x.1 = 10 ∧ bC C i = true ∧ hgC C i = 1) ∨ ((x.1 = 11 ∨ x.1 = 12) ∧ bC C i = true ∧ hgC C i = 1 ∧ ∃ t r, x.2.2.1 = k + t ∧ x.2.2.2 = k + r ∧ i < t ∧ t ≤ C.length ∧ hgC C t = 1 ∧ bC C t = true ∧ i < r ∧ r ≤ t ∧ (r = t ∨ ∃ y, C[r]? = some y ∧ y.1 = x.1 ∧ y.2.2.1 = x.2.2.1))
def PCc (k : Nat) (C : List Cd) : Prop := hg 0 C = 1 ∧ bC C C.length = true ∧ ∀ i x, C[i]? = some x → OKc k C i x
theorem bC_l {A B : List Cd} {i : Nat} (hi : i ≤ A.length) : bC (A ++ B) i = bC A i := by
  cases i with
  | zero => rfl
  | succ i => rw [bC_s, bC_s, List.getElem?_append_left (by omega)]
theorem bC_r {A B : List Cd} {i : Nat} (h : bC B i = true) : bC (A ++ B) (A.length + i) = true := by
  cases i with
  | zero => cases h
  | succ i =>
    rw [bC_s] at h
    rw [← Nat.add_assoc, bC_s, List.getElem?_append_right (by omega), show A.length + i - A.length = i from by omega]
    exact h
theorem hgC_l {A B : List Cd} {i : Nat} (hi : i ≤ A.length) : hgC (A ++ B) i = hgC A i := by unfold hgC; rw [List.take_append_of_le_length hi]
theorem hgC_r {A B : List Cd} {i : Nat} (h : hg 0 A = 0) : hgC (A ++ B) (A.length + i) = hgC B i := by
  unfold hgC
  rw [List.take_append, List.take_of_length_le (by omega), hg_app, h, show A.length + i - A.length = i from by omega]
theorem OK_l {k : Nat} {A B : List Cd} {i : Nat} {x : Cd} (hi : i < A.length) (h : OKc k A i x) : OKc k (A ++ B) i x := by
  unfold OKc at h ⊢
  rw [hgC_l (Nat.le_of_lt hi), bC_l (Nat.le_of_lt hi)]
  rcases h with h | h | h | ⟨h1, h2, h3, t, r, h4, h5, h6, h7, h8, h9, h10, h11, h12⟩
  · exact Or.inl h
  · exact Or.inr (Or.inl h)
  · exact Or.inr (Or.inr (Or.inl h))
  · refine Or.inr (Or.inr (Or.inr ⟨h1, h2, h3, t, r, h4, h5, h6, ?_, ?_, ?_, h10, h11, ?_⟩))
    · rw [List.length_append]; omega
    · rw [hgC_l h7]; exact h8
    · rw [bC_l h7]; exact h9
    · rcases h12 with z | ⟨y, y1, y2⟩
      · exact Or.inl z
      · refine Or.inr ⟨y, ?_, y2⟩
        have : r < A.length := by
          refine Classical.byContradiction fun z => ?_
          rw [List.getElem?_eq_none (by omega)] at y1
          cases y1
        rw [List.getElem?_append_left this]
        exact y1
theorem OK_r {k : Nat} {A B : List Cd} {i : Nat} {x : Cd} (h0 : hg 0 A = 0) (h : OKc (k + A.length) B i x) : OKc k (A ++ B) (A.length + i) x := by
  unfold OKc at h ⊢
  rw [hgC_r h0]
  rcases h with h | h | ⟨h1, h2, h3⟩ | ⟨h1, h2, h3, t, r, h4, h5, h6, h7, h8, h9, h10, h11, h12⟩
  · exact Or.inl h
  · exact Or.inr (Or.inl h)
  · exact Or.inr (Or.inr (Or.inl ⟨h1, bC_r h2, h3⟩))
  · refine Or.inr (Or.inr (Or.inr ⟨h1, bC_r h2, h3, A.length + t, A.length + r, by omega, by omega, by omega, ?_, ?_, bC_r h9, by omega, by omega, ?_⟩))
    · rw [List.length_append]; omega
    · rw [hgC_r h0]; exact h8
    · rcases h12 with z | ⟨y, y1, y2⟩
      · exact Or.inl (by omega)
      · refine Or.inr ⟨y, ?_, y2⟩
        rw [List.getElem?_append_right (by omega), show A.length + r - A.length = r from by omega]
        exact y1
theorem bC_last {A : List Cd} {x : Cd} (h : isB x = true) : bC (A ++ [x]) (A ++ [x]).length = true := by
  rw [List.length_append, List.length_singleton, bC_s, List.getElem?_append_right (Nat.le_refl _), Nat.sub_self]
  exact h
theorem one_at {x y : Cd} {i : Nat} (h : [y][i]? = some x) : i = 0 ∧ x = y := by
  cases i with
  | zero => simp at h; exact ⟨rfl, h.symm⟩
  | succ i => simp at h
theorem PC_not {k : Nat} {C : List Cd} (h : PCc k C) : PCc k (C ++ [(10, 0, 0, 0)]) := by
  obtain ⟨h1, h2, h3⟩ := h
  refine ⟨?_, bC_last rfl, fun i x hx => ?_⟩
  · rw [hg_app, h1]; rfl
  · by_cases c : i < C.length
    · rw [List.getElem?_append_left c] at hx
      exact OK_l c (h3 i x hx)
    · rw [List.getElem?_append_right (by omega)] at hx
      obtain ⟨z, rfl⟩ := one_at hx
      have e : i = C.length := by omega
      subst e
      refine Or.inr (Or.inr (Or.inl ⟨rfl, ?_, ?_⟩))
      · rw [bC_l (Nat.le_refl _)]; exact h2
      · unfold hgC; rw [List.take_append_of_le_length (Nat.le_refl _), List.take_length]; exact h1
theorem cmpP_b {c : Nat} (h : ¬ cmpP c = 0) : 7 ≤ cmpP c ∧ cmpP c ≤ 9 := by unfold cmpP at h ⊢; grind
theorem PC_cpr {s : Nat → Nat} (hs : ∀ p, s p < 256) {r : Nat} (hr : r ≤ 6) {p p' k : Nat} {C : List Cd} (h : cprP s r p = .ok (p', C)) : PCc k C := by
  unfold cprP at h
  cases hi : sumP s r p with
  | error f => rw [hi] at h; cases h
  | ok x =>
    obtain ⟨q, D⟩ := x
    rw [hi] at h
    simp only at h
    by_cases c : cmpP (s q) = 0
    · rw [if_pos c] at h; cases h
    · rw [if_neg c] at h
      cases hj : sumP s r (q + 1) with
      | error f => rw [hj] at h; cases h
      | ok y =>
        obtain ⟨q2, D2⟩ := y
        rw [hj] at h
        cases h
        obtain ⟨a1, a2⟩ := SH_sum hs (B := 60) r _ _ _ 0 hi (by omega)
        obtain ⟨b1, b2⟩ := SH_sum hs (B := 60) r _ _ _ 1 hj (by omega)
        have cb := cmpP_b c
        have e1 : hg 0 (D ++ D2) = 2 := by rw [hg_app, a2, b2]
        have ok : ∀ i x, okS 60 (hgC (D ++ D2 ++ [(cmpP (s q), 0, 0, 0)]) i) x → OKc k (D ++ D2 ++ [(cmpP (s q), 0, 0, 0)]) i x := by
          intro i x z
          rcases z with ⟨z1, z2, z3⟩ | ⟨z1, z2, z3⟩ | ⟨z1, z2, z3, z4⟩
          · exact Or.inl ⟨Or.inl ⟨z1, z2⟩, z3⟩
          · exact Or.inl ⟨Or.inr ⟨z1, z2⟩, z3⟩
          · exact Or.inr (Or.inl ⟨⟨z1, by omega⟩, z3, z4⟩)
        refine ⟨?_, bC_last (by unfold isB; simp only [decide_eq_true_eq]; omega), fun i x hx => ?_⟩
        · rw [hg_app, e1]
          show hst 2 (cmpP (s q), 0, 0, 0) = 1
          unfold hst
          rw [if_neg (by simp only; omega), if_neg (by simp only; omega)]
        · by_cases c1 : i < (D ++ D2).length
          · refine ok i x ?_
            rw [List.getElem?_append_left c1] at hx
            rw [hgC_l (Nat.le_of_lt c1)]
            by_cases c2 : i < D.length
            · rw [List.getElem?_append_left c2] at hx
              rw [hgC_l (Nat.le_of_lt c2)]
              exact a1 i x hx
            · rw [List.getElem?_append_right (by omega)] at hx
              have z := b1 _ x hx
              unfold hgC
              rw [List.take_append, List.take_of_length_le (by omega), hg_app, a2]
              exact z
          · rw [List.getElem?_append_right (by omega)] at hx
            obtain ⟨z, rfl⟩ := one_at hx
            have e : i = (D ++ D2).length := by omega
            subst e
            refine Or.inr (Or.inl ⟨⟨by simp only; omega, by simp only; omega⟩, ?_⟩)
            rw [hgC_l (Nat.le_refl _)]
            unfold hgC
            rw [List.take_length, e1]
            omega
theorem PC_join {s : Nat → Nat} {c op : Nat} (ho : op = 11 ∨ op = 12) {F : Nat → Nat → Rd} (hF : ∀ p k p' C, F p k = .ok (p', C) → PCc k C) : ∀ n p k p' l C, joinP s c op F n p k = .ok (p', l, C) → PCc k C ∧ l ≤ C.length ∧ (l = C.length ∨ ∃ y, C[l]? = some y ∧ y.1 = op ∧ y.2.2.1 = k + C.length) := by
  intro n
  induction n with
  | zero => intro p k p' l C h; unfold joinP at h; cases h
  | succ n ih =>
    intro p k p' l C h
    unfold joinP at h
    cases hi : F p k with
    | error f => rw [hi] at h; cases h
    | ok x =>
      obtain ⟨q, D⟩ := x
      rw [hi] at h
      simp only at h
      have hD := hF _ _ _ _ hi
      by_cases c1 : s q = c
      · rw [if_pos c1] at h
        cases hj : joinP s c op F n (q + 1) (k + D.length + 1) with
        | error f => rw [hj] at h; cases h
        | ok y =>
          obtain ⟨q2, l2, D2⟩ := y
          rw [hj] at h
          cases h
          obtain ⟨⟨i1, i2, i3⟩, i4, i5⟩ := ih _ _ _ _ _ hj
          obtain ⟨d1, d2, d3⟩ := hD
          generalize hx : ((op, 0, k + D.length + 1 + D2.length, k + D.length + 1 + l2) : Cd) = x
          have x1 : x.1 = op := by rw [← hx]
          have x2 : x.2.2.1 = k + D.length + 1 + D2.length := by rw [← hx]
          have x3 : x.2.2.2 = k + D.length + 1 + l2 := by rw [← hx]
          have e0 : D ++ x :: D2 = D ++ [x] ++ D2 := by simp
          have e1 : hg 0 (D ++ [x]) = 0 := by
            rw [hg_app, d1]
            show hst 1 x = 0
            unfold hst
            rw [if_neg (by omega), if_neg (by omega)]
          have e2 : (D ++ [x]).length = D.length + 1 := by simp
          have e3 : (D ++ [x] ++ D2).length = D.length + 1 + D2.length := by simp; omega
          have e4 : (D ++ [x] ++ D2)[D.length]? = some x := by
            rw [List.getElem?_append_left (by omega), List.getElem?_append_right (Nat.le_refl _), Nat.sub_self]
            rfl
          rw [e0]
          have f1 : hg 0 (D ++ [x] ++ D2) = 1 := by rw [hg_app, e1]; exact i1
          have f2 : bC (D ++ [x] ++ D2) (D ++ [x] ++ D2).length = true := by
            rw [List.length_append (as := D ++ [x])]
            exact bC_r i2
          refine ⟨⟨f1, f2, fun i y hy => ?_⟩, by omega, Or.inr ⟨x, e4, x1, by omega⟩⟩
          by_cases g1 : i < D.length
          · have z := hy
            rw [List.append_assoc, List.getElem?_append_left g1] at z
            rw [List.append_assoc]
            exact OK_l g1 (d3 i y z)
          · by_cases g2 : i = D.length
            · subst g2
              rw [e4] at hy
              cases hy
              refine Or.inr (Or.inr (Or.inr ⟨by rw [x1]; exact ho, ?_, ?_, D.length + 1 + D2.length, D.length + 1 + l2, by omega, by omega, by omega, by omega, ?_, ?_, by omega, by omega, ?_⟩))
              · rw [List.append_assoc, bC_l (Nat.le_refl _)]; exact d2
              · rw [List.append_assoc, hgC_l (Nat.le_refl _)]
                unfold hgC
                rw [List.take_length]
                exact d1
              · rw [← e3]
                unfold hgC
                rw [List.take_length]
                exact f1
              · rw [← e3]; exact f2
              · rcases i5 with z | ⟨y, y1, y2, y3⟩
                · exact Or.inl (by omega)
                · refine Or.inr ⟨y, ?_, by omega, by omega⟩
                  rw [List.getElem?_append_right (by omega), show D.length + 1 + l2 - (D ++ [x]).length = l2 from by omega]
                  exact y1
            · have z := hy
              rw [List.getElem?_append_right (by omega)] at z
              have w := OK_r (k := k) e1 (by rw [e2, ← Nat.add_assoc]; exact i3 _ y z)
              rw [show (D ++ [x]).length + (i - (D ++ [x]).length) = i from by omega] at w
              exact w
      · rw [if_neg c1] at h
        cases h
        exact ⟨hD, Nat.le_refl _, Or.inl rfl⟩
theorem PC_joinR {s : Nat → Nat} {c op : Nat} (ho : op = 11 ∨ op = 12) {F : Nat → Nat → Rd} (hF : ∀ p k p' C, F p k = .ok (p', C) → PCc k C) : ∀ p k p' C, joinR s c op F p k = .ok (p', C) → PCc k C := by
  intro p k p' C h
  unfold joinR at h
  cases hi : joinP s c op F 200 p k with
  | error f => rw [hi] at h; cases h
  | ok x =>
    obtain ⟨q, l, D⟩ := x
    rw [hi] at h
    cases h
    exact (PC_join ho hF _ _ _ _ _ _ hi).1
theorem PC_cnd {s : Nat → Nat} {F : Nat → Nat → Rd} (hF : ∀ p k p' C, F p k = .ok (p', C) → PCc k C) : ∀ p k p' C, cndP s F p k = .ok (p', C) → PCc k C := PC_joinR (Or.inr rfl) (PC_joinR (Or.inl rfl) hF)
theorem PC_pce {s : Nat → Nat} (hs : ∀ p, s p < 256) : ∀ r, r ≤ 6 → ∀ p k p' C, pceP s r p k = .ok (p', C) → PCc k C := by
  intro r
  induction r with
  | zero =>
    intro hr p k p' C h
    unfold pceP at h
    by_cases c : s p = 33 ∨ s p = 40
    · rw [if_pos c] at h; cases h
    · rw [if_neg c] at h; exact PC_cpr hs hr h
  | succ r ih =>
    intro hr p k p' C h
    have ih := ih (by omega)
    unfold pceP at h
    by_cases c : s p = 33
    · rw [if_pos c] at h
      cases hi : pceP s r (p + 1) k with
      | error f => rw [hi] at h; cases h
      | ok x =>
        obtain ⟨q, D⟩ := x
        rw [hi] at h
        cases h
        exact PC_not (ih _ _ _ _ hi)
    · rw [if_neg c] at h
      by_cases c2 : s p = 40
      · rw [if_pos c2] at h
        cases hi : cndP s (pceP s r) (p + 1) k with
        | error f => rw [hi] at h; cases h
        | ok x =>
          obtain ⟨q, D⟩ := x
          rw [hi] at h
          simp only at h
          by_cases c3 : s q = 41
          · rw [if_pos c3] at h
            cases h
            exact PC_cnd ih _ _ _ _ hi
          · rw [if_neg c3] at h; cases h
      · rw [if_neg c2] at h; exact PC_cpr hs hr h
theorem PC_cls {s : Nat → Nat} (hs : ∀ p, s p < 256) {e c p k : Nat} (hz : ∀ p, e ≤ p → s p = 0) {p' lt : Nat} {C : List Cd} (h : clsP s c p k = .ok (p', lt, C)) : PCc k C := by
  have h := (clsP_b hz h).2.2.2.2.2
  unfold expP at h
  by_cases c1 : s (p + 1) = 40
  · rw [if_pos c1] at h
    cases hi : cndP s (pceP s 5) (p + 2) k with
    | error f => rw [hi] at h; cases h
    | ok x =>
      obtain ⟨q, D⟩ := x
      rw [hi] at h
      simp only at h
      have z := PC_cnd (PC_pce hs 5 (by omega)) _ _ _ _ hi
      split at h
      · cases h; exact z
      · cases h
  · rw [if_neg c1] at h; cases h
