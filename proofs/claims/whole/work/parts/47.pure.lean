/-! from passing to passing, without cells -/
def NB (w : Wd) (s i : Nat) : Prop := s ≤ i ∧ (s ≠ 0 → ∀ j, s - 1 ≤ j → j < i → W_R w j 1 ≠ frm (W_R w) (W_fo w) (s - 1))
theorem NB.z (w : Wd) (i : Nat) : NB w 0 i := ⟨Nat.zero_le _, fun z => absurd rfl z⟩
theorem lft_0 (i : Nat) : lft 0 i = i := rfl
theorem lft_s {s i : Nat} (h : s ≠ 0) : lft s i = s - 1 := if_neg h
theorem NB.l {w : Wd} {s i : Nat} (h : NB w s i) : lft s i ≤ i := by
  unfold lft
  have := h.1
  split <;> omega
theorem hnd_v (w : Wd) (sp i s : Nat) (mind : Int32) : hnd w sp i s mind = 0 ∨ (hnd w sp i s mind = lft s i + 1 ∧ W_R w i 1 ≠ frm (W_R w) (W_fo w) (lft s i)) := by
  unfold hnd
  split
  · exact Or.inl rfl
  · rename_i h
    exact Or.inr ⟨rfl, fun z => h (Or.inr (Or.inl z))⟩
theorem NB.h {w : Wd} {s i : Nat} (h : NB w s i) (sp : Nat) (mind : Int32) : NB w (hnd w sp i s mind) (i + 1) := by
  rcases hnd_v w sp i s mind with e | ⟨e, hne⟩
  · rw [e]; exact NB.z w _
  · rw [e]
    have hl := h.l
    refine ⟨by omega, fun _ j h1 h2 => ?_⟩
    rw [Nat.add_sub_cancel] at h1 ⊢
    by_cases hj : j = i
    · rw [hj]; exact hne
    · by_cases hs : s = 0
      · subst hs
        rw [lft_0] at h1
        omega
      · rw [lft_s hs] at h1 ⊢
        exact h.2 hs j h1 (by omega)
theorem NB.n {w : Wd} {s i : Nat} (h : NB w s i) (sp : Nat) (mind : Int32) : NB w (nxt w sp i s mind) (i + 1) := by
  unfold nxt
  split
  · exact NB.z w _
  · split
    · exact NB.z w _
    · exact h.h sp mind
theorem stt_nb (w : Wd) (sp : Nat) (md : Nat → Int32) : ∀ i, NB w (stt w sp md i) i := by
  intro i
  induction i with
  | zero => exact NB.z w 0
  | succ i ih => exact ih.n sp (md i)
theorem own_0 (w : Wd) (i : Nat) : own w 0 i = frm (W_R w) (W_fo w) i := rfl
theorem own_s (w : Wd) (k i : Nat) : own w (k + 1) i = frm (W_R w) (W_fo w) k := rfl
theorem frm_s (w : Wd) (i : Nat) : frm (W_R w) (W_fo w) (i + 1) = W_R w i 1 := rfl
theorem own_l (w : Wd) (s i : Nat) : own w s i = frm (W_R w) (W_fo w) (lft s i) := rfl
theorem NB.ne {w : Wd} {s i : Nat} (h : NB w s i) (hs : s ≠ 0) : frm (W_R w) (W_fo w) i ≠ own w s i := by
  obtain ⟨j, rfl⟩ : ∃ j, i = j + 1 := ⟨i - 1, by have := h.1; omega⟩
  have h1 := h.1
  rw [own_l, lft_s hs, frm_s]
  exact h.2 hs j (by omega) (by omega)
theorem NB.e {w : Wd} {s i : Nat} (h : NB w s i) : frm (W_R w) (W_fo w) i = own w s i ↔ s = 0 := by
  constructor
  · intro e
    exact Classical.byContradiction fun z => h.ne z e
  · rintro rfl
    rfl
/-- title behind passing k; the month in which time gave it -/
def tlt (w : Wd) (sp : Nat) (md : Nat → Int32) (k : Nat) : Int32 := own w (hnd w sp k (stt w sp md k) (md k)) (k + 1)
def tmi (w : Wd) (sp : Nat) (md : Nat → Int32) (k : Nat) : Int32 := if hnd w sp k (stt w sp md k) (md k) = 0 then -1 else ofM (wtm w k (hnd w sp k (stt w sp md k) (md k) - 1) (md k))
theorem hnd_own (w : Wd) (sp i s : Nat) (mind : Int32) : own w (hnd w sp i s mind) (i + 1) = W_R w i 1 ∨ own w (hnd w sp i s mind) (i + 1) = own w s i := by
  rcases hnd_v w sp i s mind with e | ⟨e, hne⟩
  · rw [e]; exact Or.inl rfl
  · rw [e]; exact Or.inr rfl
theorem made_iff (w : Wd) (sp i s : Nat) (mind : Int32) : (own w s i ≠ W_R w i 1 ∧ own w (hnd w sp i s mind) (i + 1) = W_R w i 1) ↔ own w (hnd w sp i s mind) (i + 1) ≠ own w s i := by
  rcases hnd_own w sp i s mind with e | e <;> rw [e] <;> grind
def RM (w : Wd) (sp : Nat) (md : Nat → Int32) (n : Nat) (h : Hp) : Prop := ∀ k, k < n → h.2.1 197 k = own w (stt w sp md k) k ∧ h.2.1 201 k = tlt w sp md k ∧ h.2.1 202 k = tmi w sp md k ∧ h.2.1 203 k = b2 (tlt w sp md k ≠ own w (stt w sp md k) k) ∧ (stt w sp md k ≠ 0 → h.2.1 198 k = b2 (W_R w (lft (stt w sp md k) k) 0 = 3 ∨ W_R w (lft (stt w sp md k) k) 0 = 4) ∧ h.2.1 199 k = W_R w k 3 - W_R w (lft (stt w sp md k) k) 3 ∧ h.2.1 200 k = nI (k - lft (stt w sp md k) k + 1))
theorem kd_2 : ∀ k, k < 8 → (nI k ≤ 2 ↔ k ≤ 2) ∧ (2 < nI k ↔ 2 < k) ∧ (nI k = 3 ↔ k = 3) ∧ (nI k = 4 ↔ k = 4) := by decide +kernel
