/-! a law that was read is well shaped -/
def cdA (A : List Cl) (k : Nat) : Cd := ((LAc A)[k]?).getD (0, 0, 0, 0)
def clA (A : List Cl) (c : Nat) : Cl := (A[c]?).getD (0, 0, [])
def dA (A : List Cl) : LDt := (A.length, fun c => (clA A c).1, fun c => (clA A c).2.1, fun c => (clA A c).2.1 + (clA A c).2.2.length, fun k => (cdA A k).1, fun k => (cdA A k).2.1, fun k => (cdA A k).2.2.1, fun k => (cdA A k).2.2.2, fun _ => 0, fun _ => false)
theorem SEQ.code : ∀ {A : List Cl} {k0 k : Nat}, SEQ k0 A k → ∀ (j : Nat) (x : Cl), A[j]? = some x → ∀ i y, x.2.2[i]? = some y → (LAc A)[x.2.1 - k0 + i]? = some y := by
  intro A
  induction A with
  | nil => intro k0 k _ j x e; simp at e
  | cons z A ih =>
    rintro k0 k ⟨z1, z2⟩ j x e i y hy
    have e0 : LAc (z :: A) = z.2.2 ++ LAc A := by unfold LAc; simp
    rw [e0]
    cases j with
    | zero =>
      simp at e
      subst e
      have hi : i < z.2.2.length := by
        refine Classical.byContradiction fun q => ?_
        rw [List.getElem?_eq_none (by omega)] at hy
        cases hy
      rw [z1, Nat.sub_self, Nat.zero_add, List.getElem?_append_left hi]
      exact hy
    | succ j =>
      simp at e
      have s1 := (z2.at j x e).1
      rw [List.getElem?_append_right (by omega), show x.2.1 - k0 + i - z.2.2.length = x.2.1 - (k0 + z.2.2.length) + i from by omega]
      exact ih z2 j x e i y hy
theorem SEQ.cd {A : List Cl} {k : Nat} (h : SEQ 0 A k) {j : Nat} {x : Cl} (hj : A[j]? = some x) {i : Nat} {y : Cd} (hy : x.2.2[i]? = some y) : (LAc A)[x.2.1 + i]? = some y ∧ cdA A (x.2.1 + i) = y := by
  have z := h.code j x hj i y hy
  rw [Nat.sub_zero] at z
  refine ⟨z, ?_⟩
  unfold cdA
  rw [z]
  rfl
theorem clA_at {A : List Cl} {j : Nat} {x : Cl} (hj : A[j]? = some x) : clA A j = x := by unfold clA; rw [hj]; rfl
theorem some_lt {A : List Cl} {j : Nat} (h : j < A.length) : ∃ x, A[j]? = some x := ⟨A[j], List.getElem?_eq_getElem h⟩
theorem cd_lt {A : List Cd} {j : Nat} (h : j < A.length) : ∃ x, A[j]? = some x := ⟨A[j], List.getElem?_eq_getElem h⟩
theorem hgC_s {C : List Cd} {i : Nat} {y : Cd} (hy : C[i]? = some y) : hgC C (i + 1) = hst (hgC C i) y := by
  unfold hgC
  rw [List.take_add_one, hy, hg_app]
  rfl
theorem SOK_of {A : List Cl} {k : Nat} (h : SEQ 0 A k) {j : Nat} {x : Cl} (hj : A[j]? = some x) (hp : PCc x.2.1 x.2.2) {i : Nat} (hi : i < x.2.2.length) : SOK (dA A) (fun k => hgC x.2.2 (k - x.2.1)) (fun k => bC x.2.2 (k - x.2.1)) (x.2.1 + x.2.2.length) (x.2.1 + i) := by
  obtain ⟨y, hy⟩ := cd_lt hi
  have hc := (h.cd hj hy).2
  have ho : lOp (dA A) (x.2.1 + i) = y.1 := by show (cdA A _).1 = _; rw [hc]
  have har : lAr (dA A) (x.2.1 + i) = y.2.1 := by show (cdA A _).2.1 = _; rw [hc]
  have ht : lTg (dA A) (x.2.1 + i) = y.2.2.1 := by show (cdA A _).2.2.1 = _; rw [hc]
  have hr : lRt (dA A) (x.2.1 + i) = y.2.2.2 := by show (cdA A _).2.2.2 = _; rw [hc]
  have hs := hgC_s hy
  have e1 : x.2.1 + i + 1 - x.2.1 = i + 1 := by omega
  have e2 : x.2.1 + i - x.2.1 = i := by omega
  have ok := hp.2.2 i y hy
  unfold SOK
  simp only [ho, har, ht, hr, e1, e2, hs]
  refine ⟨fun z => ?_, ?_⟩
  · rw [bC_s, hy] at z
    simp only [Option.map_some, Option.getD_some, isB, decide_eq_true_eq] at z
    exact z
  · rcases ok with ⟨o1, o2⟩ | ⟨o1, o2, o3⟩ | ⟨o1, o2, o3⟩ | ⟨o1, o2, o3, t, r, o4, o5, o6, o7, o8, o9, o10, o11, o12⟩
    · refine Or.inl ⟨o1, o2, ?_⟩
      unfold hst
      rw [if_pos (by omega)]
    · refine Or.inr (Or.inl ⟨o1, ⟨o2, o3⟩, ?_⟩)
      unfold hst
      rw [if_neg (by omega), if_neg (by omega)]
      omega
    · refine Or.inr (Or.inr (Or.inl ⟨o1, o2, o3, ?_⟩))
      unfold hst
      rw [if_neg (by omega), if_pos o1]
      exact o3
    · refine Or.inr (Or.inr (Or.inr ⟨o1, o2, o3, ?_, ?_, ?_, ?_, ?_, ?_, ?_, ?_⟩))
      · unfold hst
        rw [if_neg (by omega), if_neg (by omega)]
        omega
      · omega
      · omega
      · rw [o4, show x.2.1 + t - x.2.1 = t from by omega]; exact o8
      · rw [o4, show x.2.1 + t - x.2.1 = t from by omega]; exact o9
      · omega
      · omega
      · rcases o12 with z | ⟨y', y1, y2, y3⟩
        · exact Or.inl (by omega)
        · have hc' := (h.cd hj y1).2
          refine Or.inr ⟨?_, ?_⟩
          · show (cdA A y.2.2.2).1 = _
            rw [o5, hc', y2]
          · show (cdA A y.2.2.2).2.2.1 = _
            rw [o5, hc', y3]
theorem WD_of {A : List Cl} {k : Nat} (h : SEQ 0 A k) (hk : k ≤ 160) (hA : A.length ≤ 12) (hp : ∀ (j : Nat) (x : Cl), A[j]? = some x → x.1 < 8 ∧ PCc x.2.1 x.2.2) : WD (dA A) := by
  refine ⟨hA, fun c hc => ?_⟩
  obtain ⟨x, hx⟩ := some_lt (A := A) hc
  have hc := clA_at hx
  obtain ⟨p1, p2⟩ := hp c x hx
  obtain ⟨s1, s2, s3⟩ := h.at c x hx
  have f1 : lLt (dA A) c = x.1 := by show (clA A c).1 = _; rw [hc]
  have f2 : lFr (dA A) c = x.2.1 := by show (clA A c).2.1 = _; rw [hc]
  have f3 : lTo (dA A) c = x.2.1 + x.2.2.length := by show (clA A c).2.1 + (clA A c).2.2.length = _; rw [hc]
  rw [f1, f2, f3]
  refine ⟨p1, by omega, by omega, fun k => hgC x.2.2 (k - x.2.1), fun k => bC x.2.2 (k - x.2.1), ?_, ?_, ?_, ?_, fun k k1 k2 => ?_⟩
  · simp only [Nat.sub_self]; rfl
  · simp only [Nat.sub_self]; rfl
  · show hgC x.2.2 (x.2.1 + x.2.2.length - x.2.1) = 1
    rw [show x.2.1 + x.2.2.length - x.2.1 = x.2.2.length from by omega]
    unfold hgC
    rw [List.take_length]
    exact p2.1
  · show bC x.2.2 (x.2.1 + x.2.2.length - x.2.1) = true
    rw [show x.2.1 + x.2.2.length - x.2.1 = x.2.2.length from by omega]
    exact p2.2.1
  · have z := SOK_of h hx p2 (i := k - x.2.1) (by omega)
    rw [show x.2.1 + (k - x.2.1) = k from by omega] at z
    exact z
theorem lawP_p {s : Nat → Nat} (hs : ∀ p, s p < 256) {e : Nat} (hz : ∀ p, e ≤ p → s p = 0) : ∀ n p k c A, lawP s e n p k c = .ok A → (∀ (j : Nat) (x : Cl), A[j]? = some x → x.1 < 8 ∧ PCc x.2.1 x.2.2) ∧ c + A.length ≤ 12 := by
  intro n
  induction n with
  | zero => intro p k c A h; unfold lawP at h; cases h
  | succ n ih =>
    intro p k c A h
    unfold lawP at h
    cases hi : clsP s c p k with
    | error f => rw [hi] at h; cases h
    | ok y =>
      obtain ⟨p', lt, C⟩ := y
      rw [hi] at h
      simp only at h
      obtain ⟨-, -, -, b4, b5, -⟩ := clsP_b hz hi
      have pc := PC_cls hs hz hi
      by_cases c1 : p' = e
      · rw [if_pos c1] at h
        cases h
        refine ⟨fun j x hj => ?_, by simp only [List.length_singleton]; omega⟩
        cases j with
        | zero => simp at hj; subst hj; exact ⟨b4, pc⟩
        | succ j => simp at hj
      · rw [if_neg c1] at h
        by_cases c2 : s p' = 59
        · rw [if_pos c2] at h
          cases hj : lawP s e n (p' + 1) (k + C.length) (c + 1) with
          | error f => rw [hj] at h; cases h
          | ok L =>
            rw [hj] at h
            cases h
            obtain ⟨i1, i2⟩ := ih _ _ _ _ hj
            refine ⟨fun j x hx => ?_, by simp only [List.length_cons]; omega⟩
            cases j with
            | zero => simp at hx; subst hx; exact ⟨b4, pc⟩
            | succ j => simp at hx; exact i1 j x hx
        · rw [if_neg c2] at h; cases h
theorem LX_of {h : Hp} {la : Nat} {A : List Cl} (o : OL la (.ok A) h) : LX h la (dA A) := by
  obtain ⟨-, o2, o3, k, o4, o5, o6⟩ := o
  refine ⟨o2, ⟨_, o5, o6, fun c hc => ?_⟩, fun c hc => ?_⟩
  · obtain ⟨x, hx⟩ := some_lt (A := A) hc
    obtain ⟨s1, s2, s3⟩ := o4.at c x hx
    have f3 : lTo (dA A) c = x.2.1 + x.2.2.length := by show (clA A c).2.1 + (clA A c).2.2.length = _; rw [clA_at hx]
    omega
  · obtain ⟨x, hx⟩ := some_lt (A := A) hc
    obtain ⟨c1, c2, c3, c4⟩ := o3 c x hx
    have f1 : lLt (dA A) c = x.1 := by show (clA A c).1 = _; rw [clA_at hx]
    have f2 : lFr (dA A) c = x.2.1 := by show (clA A c).2.1 = _; rw [clA_at hx]
    have f3 : lTo (dA A) c = x.2.1 + x.2.2.length := by show (clA A c).2.1 + (clA A c).2.2.length = _; rw [clA_at hx]
    rw [f1, f2, f3]
    refine ⟨c1, c2, by rw [show x.2.1 + x.2.2.length + c = x.2.1 + c + x.2.2.length from by omega]; exact c4, fun k k1 k2 => ?_⟩
    obtain ⟨y, hy⟩ := cd_lt (A := x.2.2) (j := k - x.2.1) (by omega)
    have z := (o4.cd hx hy).2
    rw [show x.2.1 + (k - x.2.1) = k from by omega] at z
    have w := c3 _ y hy
    rw [show x.2.1 + c + (k - x.2.1) = k + c from by omega] at w
    have g1 : lOp (dA A) k = y.1 := by show (cdA A k).1 = _; rw [z]
    have g2 : lAr (dA A) k = y.2.1 := by show (cdA A k).2.1 = _; rw [z]
    have g3 : lTg (dA A) k = y.2.2.1 := by show (cdA A k).2.2.1 = _; rw [z]
    rw [g1, g2, g3]
    exact w
theorem LM_of {h h' : Hp} {l : Nat} {A : List Cl} (o : OMl l (.ok A) h h') : LM h' l (dA A) := by
  obtain ⟨-, o2, o3, o4, k, o5, o6⟩ := o
  refine ⟨o2, fun c hc => ?_⟩
  obtain ⟨x, hx⟩ := some_lt (A := A) hc
  obtain ⟨c1, c2, c3⟩ := o3 c x hx
  have f1 : lLt (dA A) c = x.1 := by show (clA A c).1 = _; rw [clA_at hx]
  have f2 : lFr (dA A) c = x.2.1 := by show (clA A c).2.1 = _; rw [clA_at hx]
  have f3 : lTo (dA A) c = x.2.1 + x.2.2.length := by show (clA A c).2.1 + (clA A c).2.2.length = _; rw [clA_at hx]
  rw [f1, f2, f3]
  refine ⟨c1, c2, c3, fun k k1 k2 => ?_⟩
  obtain ⟨y, hy⟩ := cd_lt (A := x.2.2) (j := k - x.2.1) (by omega)
  obtain ⟨z1, z⟩ := o5.cd hx hy
  rw [show x.2.1 + (k - x.2.1) = k from by omega] at z z1
  have w := o4 _ y z1
  have g1 : lOp (dA A) k = y.1 := by show (cdA A k).1 = _; rw [z]
  have g2 : lAr (dA A) k = y.2.1 := by show (cdA A k).2.1 = _; rw [z]
  have g4 : lRt (dA A) k = y.2.2.2 := by show (cdA A k).2.2.2 = _; rw [z]
  rw [g1, g2, g4]
  exact w
