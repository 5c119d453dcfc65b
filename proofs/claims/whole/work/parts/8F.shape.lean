/-! the faults' numbers are small -/
def FB (e f : Nat) : Prop := 1000 ≤ f ∧ f ≤ e + 6000
def EB (e : Nat) (F : Nat → Rd) : Prop := ∀ p f, p ≤ e + 1 → F p = .error f → FB e f
def EB2 (e : Nat) (F : Nat → Nat → Rd) : Prop := ∀ p k f, p ≤ e + 1 → F p k = .error f → FB e f
theorem EB_fct {s : Nat → Nat} {e : Nat} (hs : ∀ p, e ≤ p → s p = 0) {I : Nat → Rd} (hI : ∀ p f, p ≤ e → I p = .error f → FB e f) (hG : ∀ p p' C, I p = .ok (p', C) → p' ≤ e) : EB e (fctP s I) := by
  intro p f hp h
  unfold fctP at h
  by_cases c1 : s p = 91
  · rw [if_pos c1] at h
    have hpe : p < e := lt_e hs (by omega)
    cases hi : I p with
    | error g => rw [hi] at h; cases h; exact hI p _ (by omega) hi
    | ok x =>
      obtain ⟨q, D⟩ := x
      rw [hi] at h
      simp only at h
      have := hG _ _ _ hi
      by_cases c2 : s q = 93
      · rw [if_pos c2] at h; cases h
      · rw [if_neg c2] at h; cases h; unfold FB; omega
  · rw [if_neg c1] at h
    by_cases c2 : isD (s p) = true
    · rw [if_pos c2] at h
      have hpe : p < e := lt_e hs fun z => by rw [z, isD_0] at c2; cases c2
      have := (numP_b hs 6 p 0 (by omega)).2.1
      by_cases c3 : isD (s (numP s 6 p 0).1) = true
      · rw [if_pos c3] at h; cases h; unfold FB; omega
      · rw [if_neg c3] at h; cases h
    · rw [if_neg c2] at h
      by_cases c3 : ltrP (s p) < 13
      · rw [if_pos c3] at h; cases h
      · rw [if_neg c3] at h; cases h; unfold FB; omega
theorem EB_tail {s : Nat → Nat} {e : Nat} {g : Nat → Bool} {F : Nat → Rd} (hF : EB e F) (hG : GO e F) : ∀ n p C f, p ≤ e → tailP s g F n p C = .error f → FB e f := by
  intro n
  induction n with
  | zero => intro p C f hp h; unfold tailP at h; cases h
  | succ n ih =>
    intro p C f hp h
    unfold tailP at h
    by_cases c : g (s p) = true
    · rw [if_pos c] at h
      cases hi : F (p + 1) with
      | error f => rw [hi] at h; cases h; exact hF _ _ (by omega) hi
      | ok x =>
        obtain ⟨q, D⟩ := x
        rw [hi] at h
        simp only at h
        exact ih _ _ _ (hG _ _ _ hi).2.1 h
    · rw [if_neg c] at h; cases h
theorem EB_chain {s : Nat → Nat} {e : Nat} {g : Nat → Bool} {F : Nat → Rd} (hF : EB e F) (hG : GO e F) : EB e (chainP s g F) := by
  intro p f hp h
  unfold chainP at h
  cases hi : F p with
  | error f => rw [hi] at h; cases h; exact hF _ _ hp hi
  | ok x =>
    obtain ⟨q, D⟩ := x
    rw [hi] at h
    exact EB_tail hF hG _ _ _ _ (hG _ _ _ hi).2.1 h
theorem EB_sum {s : Nat → Nat} {e : Nat} (hs : ∀ p, e ≤ p → s p = 0) : ∀ r, EB e (sumP s r) := by
  intro r
  induction r with
  | zero => exact EB_chain (EB_chain (EB_fct hs (fun p f hp h => by cases h; unfold FB; omega) fun p p' C h => by cases h) (GO_fct hs fun p p' C h => by cases h)) (GO_chain (GO_fct hs fun p p' C h => by cases h))
  | succ r ih =>
    have g1 : GO e (fctP s fun p => sumP s r (p + 1)) := GO_fct hs fun p p' C h => by have := GO_sum hs r _ _ _ h; omega
    exact EB_chain (EB_chain (EB_fct hs (fun p f hp h => ih _ _ (by omega) h) fun p p' C h => (GO_sum hs r _ _ _ h).2.1) g1) (GO_chain g1)
theorem EB_cpr {s : Nat → Nat} {e : Nat} (hs : ∀ p, e ≤ p → s p = 0) (r : Nat) : EB e (cprP s r) := by
  intro p f hp h
  unfold cprP at h
  cases hi : sumP s r p with
  | error f => rw [hi] at h; cases h; exact EB_sum hs r _ _ hp hi
  | ok x =>
    obtain ⟨q, D⟩ := x
    rw [hi] at h
    simp only at h
    have := (GO_sum hs r _ _ _ hi).2.1
    by_cases c : cmpP (s q) = 0
    · rw [if_pos c] at h; cases h; unfold FB; omega
    · rw [if_neg c] at h
      cases hj : sumP s r (q + 1) with
      | error f => rw [hj] at h; cases h; exact EB_sum hs r _ _ (by omega) hj
      | ok y => rw [hj] at h; cases h
theorem EB_join {s : Nat → Nat} {e c op : Nat} {F : Nat → Nat → Rd} (hF : EB2 e F) (hG : GO2 e F) : ∀ n p k f, p ≤ e + 1 → joinP s c op F n p k = .error f → FB e f := by
  intro n
  induction n with
  | zero => intro p k f hp h; unfold joinP at h; cases h; unfold FB; omega
  | succ n ih =>
    intro p k f hp h
    unfold joinP at h
    cases hi : F p k with
    | error f => rw [hi] at h; cases h; exact hF _ _ _ hp hi
    | ok x =>
      obtain ⟨q, D⟩ := x
      rw [hi] at h
      simp only at h
      have := (hG _ _ _ _ hi).2.1
      by_cases c1 : s q = c
      · rw [if_pos c1] at h
        cases hj : joinP s c op F n (q + 1) (k + D.length + 1) with
        | error f => rw [hj] at h; cases h; exact ih _ _ _ (by omega) hj
        | ok y => rw [hj] at h; cases h
      · rw [if_neg c1] at h; cases h
theorem EB_joinR {s : Nat → Nat} {e c op : Nat} {F : Nat → Nat → Rd} (hF : EB2 e F) (hG : GO2 e F) : EB2 e (joinR s c op F) := by
  intro p k f hp h
  unfold joinR at h
  cases hi : joinP s c op F 200 p k with
  | error f => rw [hi] at h; cases h; exact EB_join hF hG _ _ _ _ hp hi
  | ok x => rw [hi] at h; cases h
theorem EB_cnd {s : Nat → Nat} {e : Nat} {F : Nat → Nat → Rd} (hF : EB2 e F) (hG : GO2 e F) : EB2 e (cndP s F) := EB_joinR (EB_joinR hF hG) (GO_join hG)
theorem EB_pce {s : Nat → Nat} {e : Nat} (hs : ∀ p, e ≤ p → s p = 0) : ∀ r, EB2 e (pceP s r) := by
  intro r
  induction r with
  | zero =>
    intro p k f hp h
    unfold pceP at h
    by_cases c : s p = 33 ∨ s p = 40
    · rw [if_pos c] at h; cases h; unfold FB; have := lt_e (p := p) hs (by omega); omega
    · rw [if_neg c] at h; exact EB_cpr hs 0 _ _ hp h
  | succ r ih =>
    intro p k f hp h
    unfold pceP at h
    by_cases c : s p = 33
    · rw [if_pos c] at h
      have := lt_e (p := p) hs (by omega)
      cases hi : pceP s r (p + 1) k with
      | error f => rw [hi] at h; cases h; exact ih _ _ _ (by omega) hi
      | ok x => rw [hi] at h; cases h
    · rw [if_neg c] at h
      by_cases c2 : s p = 40
      · rw [if_pos c2] at h
        have := lt_e (p := p) hs (by omega)
        cases hi : cndP s (pceP s r) (p + 1) k with
        | error f => rw [hi] at h; cases h; exact EB_cnd ih (GO_pce hs r) _ _ _ (by omega) hi
        | ok x =>
          obtain ⟨q, D⟩ := x
          rw [hi] at h
          simp only at h
          have := (GO_cnd hs r _ _ _ _ hi).2.1
          by_cases c3 : s q = 41
          · rw [if_pos c3] at h; cases h
          · rw [if_neg c3] at h; cases h; unfold FB; omega
      · rw [if_neg c2] at h; exact EB_cpr hs _ _ _ hp h
theorem EB_cls {s : Nat → Nat} {e c p k f : Nat} (hs : ∀ p, e ≤ p → s p = 0) (hp : p ≤ e + 1) (h : clsP s c p k = .error f) : FB e f := by
  unfold clsP at h
  by_cases c1 : (txT 0).idxOf (s p) < 8
  · rw [if_pos c1] at h
    by_cases c2 : c < 12
    · rw [if_pos c2] at h
      unfold expP at h
      by_cases c3 : s (p + 1) = 40
      · rw [if_pos c3] at h
        have := lt_e (p := p + 1) hs (by omega)
        cases hi : cndP s (pceP s 5) (p + 2) k with
        | error f => rw [hi] at h; cases h; exact EB_cnd (EB_pce hs 5) (GO_pce hs 5) _ _ _ (by omega) hi
        | ok x =>
          obtain ⟨q, D⟩ := x
          rw [hi] at h
          simp only at h
          have := (GO_cnd hs 5 _ _ _ _ hi).2.1
          by_cases c4 : s q = 41
          · rw [if_pos c4] at h; cases h
          · rw [if_neg c4] at h; cases h; unfold FB; omega
      · rw [if_neg c3] at h; cases h; unfold FB; omega
    · rw [if_neg c2] at h; cases h; unfold FB; omega
  · rw [if_neg c1] at h; cases h; unfold FB; omega
theorem EB_law {s : Nat → Nat} {e : Nat} (hs : ∀ p, e ≤ p → s p = 0) : ∀ n p k c f, p ≤ e + 1 → lawP s e n p k c = .error f → FB e f := by
  intro n
  induction n with
  | zero => intro p k c f hp h; unfold lawP at h; cases h; unfold FB; omega
  | succ n ih =>
    intro p k c f hp h
    unfold lawP at h
    cases hi : clsP s c p k with
    | error f => rw [hi] at h; cases h; exact EB_cls hs hp hi
    | ok y =>
      obtain ⟨p', lt, C⟩ := y
      rw [hi] at h
      simp only at h
      have := (clsP_b hs hi).2.1
      by_cases c1 : p' = e
      · rw [if_pos c1] at h; cases h
      · rw [if_neg c1] at h
        by_cases c2 : s p' = 59
        · rw [if_pos c2] at h
          cases hj : lawP s e n (p' + 1) (k + C.length) (c + 1) with
          | error f => rw [hj] at h; cases h; exact ih _ _ _ _ (by omega) hj
          | ok L => rw [hj] at h; cases h
        · rw [if_neg c2] at h; cases h; unfold FB; omega
