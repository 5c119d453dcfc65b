/-! reasoning about what methods do: f comes to an end, and P holds there -/
def ev {α : Type} (f : En → Hp → Option (α × Hp)) (E : En) (h : Hp) (P : α → Hp → Prop) : Prop := ∃ v h', f E h = some (v, h') ∧ P v h'
def wp (f : Sm) (E : En) (h : Hp) (Q : Nat → Value → En → Hp → Prop) : Prop := ∃ o v E' h', f E h = some (o, v, E', h') ∧ Q o v E' h'
def fq (F : FN) (vs : List Value) (h : Hp) (P : Option Value → Hp → Prop) : Prop := ∃ r h', F vs h = some (r, h') ∧ P r h'
theorem ev_mono {α : Type} {f : En → Hp → Option (α × Hp)} {E : En} {h : Hp} {P P' : α → Hp → Prop} (h1 : ev f E h P) (hP : ∀ v h', P v h' → P' v h') : ev f E h P' := by
  obtain ⟨v, h', e, p⟩ := h1
  exact ⟨v, h', e, hP _ _ p⟩
theorem wp_mono {f : Sm} {E : En} {h : Hp} {Q Q' : Nat → Value → En → Hp → Prop} (h1 : wp f E h Q) (hQ : ∀ o v E' h', Q o v E' h' → Q' o v E' h') : wp f E h Q' := by
  obtain ⟨o, v, E', h', e, q⟩ := h1
  exact ⟨o, v, E', h', e, hQ _ _ _ _ q⟩
theorem fq_mono {F : FN} {vs : List Value} {h : Hp} {P P' : Option Value → Hp → Prop} (h1 : fq F vs h P) (hP : ∀ r h', P r h' → P' r h') : fq F vs h P' := by
  obtain ⟨r, h', e, p⟩ := h1
  exact ⟨r, h', e, hP _ _ p⟩
section WPR
variable {α β γ : Type} {E : En} {h : Hp}
theorem q_some {x : α × Hp} {P : α → Hp → Prop} (f : En → Hp → Option (α × Hp)) (e : f E h = some x) : ev f E h P ↔ P x.1 x.2 := by
  constructor
  · rintro ⟨v, h', e2, p⟩
    rw [e] at e2
    cases e2
    exact p
  · intro p
    exact ⟨x.1, x.2, e, p⟩
theorem q_bind {f : En → Hp → Option (α × Hp)} {g : α × Hp → Option (β × Hp)} {P : β → Hp → Prop} : ev (fun E h => (f E h).bind g) E h P ↔ ev f E h fun x h1 => ∃ v h', g (x, h1) = some (v, h') ∧ P v h' := by
  constructor
  · rintro ⟨v, h', e, p⟩
    obtain ⟨⟨x, h1⟩, e1, e2⟩ := bind_some2 e
    exact ⟨x, h1, e1, v, h', e2, p⟩
  · rintro ⟨x, h1, e1, v, h', e2, p⟩
    exact ⟨v, h', by show (f E h).bind g = _; rw [e1]; exact e2, p⟩
theorem q_icst {v : Int32} {P : Int32 → Hp → Prop} : ev (icst v) E h P ↔ P v h := q_some (x := (v, h)) (icst v) rfl
theorem q_lcst {v : Int64} {P : Int64 → Hp → Prop} : ev (lcst v) E h P ↔ P v h := q_some (x := (v, h)) (lcst v) rfl
theorem q_xR {v : Nat} {P : Nat → Hp → Prop} : ev (xR v) E h P ↔ P v h := q_some (x := (v, h)) (xR v) rfl
theorem q_ldI {i : Nat} {P : Int32 → Hp → Prop} : ev (ldI i) E h P ↔ ∃ x, E[i]? = some (.int x) ∧ P x h := by
  constructor
  · rintro ⟨v, h', e, p⟩
    obtain ⟨e1, rfl⟩ := ldI_inv e
    exact ⟨v, e1, p⟩
  · rintro ⟨x, e, p⟩
    exact ⟨x, h, by simp [ldI, e], p⟩
theorem q_ldR {i : Nat} {P : Nat → Hp → Prop} : ev (ldR i) E h P ↔ ∃ x, E[i]? = some (.ref x) ∧ P x h := by
  constructor
  · rintro ⟨v, h', e, p⟩
    obtain ⟨e1, rfl⟩ := ldR_inv e
    exact ⟨v, e1, p⟩
  · rintro ⟨x, e, p⟩
    exact ⟨x, h, by simp [ldR, e], p⟩
theorem q_ldL {i : Nat} {P : Int64 → Hp → Prop} : ev (ldL i) E h P ↔ ∃ x, E[i]? = some (.long x) ∧ P x h := by
  constructor
  · rintro ⟨v, h', e, p⟩
    obtain ⟨e1, rfl⟩ := ldL_inv e
    exact ⟨v, e1, p⟩
  · rintro ⟨x, e, p⟩
    exact ⟨x, h, by simp [ldL, e], p⟩
theorem q_bn {op : α → β → γ} {a : En → Hp → Option (α × Hp)} {b : En → Hp → Option (β × Hp)} {P : γ → Hp → Prop} : ev (bn op a b) E h P ↔ ev a E h fun x h1 => ev b E h1 fun y h2 => P (op x y) h2 := by
  constructor
  · rintro ⟨v, h', e, p⟩
    obtain ⟨⟨x, h1⟩, e1, e⟩ := bind_some2 e
    obtain ⟨⟨y, h2⟩, e2, e⟩ := bind_some2 e
    cases e
    exact ⟨x, h1, e1, y, h2, e2, p⟩
  · rintro ⟨x, h1, e1, y, h2, e2, p⟩
    exact ⟨op x y, h2, by simp [bn, e1, e2], p⟩
theorem q_un {op : α → β} {a : En → Hp → Option (α × Hp)} {P : β → Hp → Prop} : ev (un op a) E h P ↔ ev a E h fun x h1 => P (op x) h1 := by
  constructor
  · rintro ⟨v, h', e, p⟩
    obtain ⟨⟨x, h1⟩, e1, e⟩ := bind_some2 e
    cases e
    exact ⟨x, h1, e1, p⟩
  · rintro ⟨x, h1, e1, p⟩
    exact ⟨op x, h1, by simp [un, e1], p⟩
theorem q_dv {op : Int32 → Int32 → Int32} {a b : DI} {P : Int32 → Hp → Prop} : ev (dv op a b) E h P ↔ ev a E h fun x h1 => ev b E h1 fun y h2 => y ≠ 0 ∧ P (op x y) h2 := by
  constructor
  · rintro ⟨v, h', e, p⟩
    obtain ⟨⟨x, h1⟩, e1, e⟩ := bind_some2 e
    obtain ⟨⟨y, h2⟩, e2, e⟩ := bind_some2 e
    split at e
    · cases e
    · rename_i hy
      cases e
      exact ⟨x, h1, e1, y, h2, e2, hy, p⟩
  · rintro ⟨x, h1, e1, y, h2, e2, hy, p⟩
    exact ⟨op x y, h2, by simp [dv, e1, e2, hy], p⟩
theorem q_fI {c k : Nat} {a : DR} {P : Int32 → Hp → Prop} : ev (fI c k a) E h P ↔ ev a E h fun x h1 => (x < h1.1 ∧ (LY x).1 = c) ∧ P (h1.2.1 x k) h1 := by
  constructor
  · rintro ⟨v, h', e, p⟩
    obtain ⟨⟨x, h1⟩, e1, e⟩ := bind_some2 e
    split at e
    · rename_i hc
      cases e
      exact ⟨x, h1, e1, hc, p⟩
    · cases e
  · rintro ⟨x, h1, e1, hc, p⟩
    exact ⟨_, h1, by simp [fI, e1, hc], p⟩
theorem q_fR {c k : Nat} {a : DR} {P : Nat → Hp → Prop} : ev (fR c k a) E h P ↔ ev a E h fun x h1 => (x < h1.1 ∧ (LY x).1 = c) ∧ ∃ y, h1.2.2 x k = some y ∧ P y h1 := by
  constructor
  · rintro ⟨v, h', e, p⟩
    obtain ⟨⟨x, h1⟩, e1, e⟩ := bind_some2 e
    split at e
    · rename_i hc
      obtain ⟨y, e2, e3⟩ := Option.map_eq_some_iff.mp e
      cases e3
      exact ⟨x, h1, e1, hc, v, e2, p⟩
    · cases e
  · rintro ⟨x, h1, e1, hc, y, e2, p⟩
    exact ⟨y, h1, by simp [fR, e1, hc, e2], p⟩
theorem q_aI {c : Nat} {a : DR} {b : DI} {P : Int32 → Hp → Prop} : ev (aI c a b) E h P ↔ ev a E h fun x h1 => ev b E h1 fun y h2 => (x < h2.1 ∧ (LY x).1 = c ∧ inI y (LY x).2 = true) ∧ P (h2.2.1 x y.toNatClampNeg) h2 := by
  constructor
  · rintro ⟨v, h', e, p⟩
    obtain ⟨⟨x, h1⟩, e1, e⟩ := bind_some2 e
    obtain ⟨⟨y, h2⟩, e2, e⟩ := bind_some2 e
    split at e
    · rename_i hc
      cases e
      exact ⟨x, h1, e1, y, h2, e2, hc, p⟩
    · cases e
  · rintro ⟨x, h1, e1, y, h2, e2, hc, p⟩
    exact ⟨_, h2, by simp [aI, e1, e2, hc], p⟩
theorem q_aR {c : Nat} {a : DR} {b : DI} {P : Nat → Hp → Prop} : ev (aR c a b) E h P ↔ ev a E h fun x h1 => ev b E h1 fun y h2 => (x < h2.1 ∧ (LY x).1 = c ∧ inI y (LY x).2 = true) ∧ ∃ z, h2.2.2 x y.toNatClampNeg = some z ∧ P z h2 := by
  constructor
  · rintro ⟨v, h', e, p⟩
    obtain ⟨⟨x, h1⟩, e1, e⟩ := bind_some2 e
    obtain ⟨⟨y, h2⟩, e2, e⟩ := bind_some2 e
    split at e
    · rename_i hc
      obtain ⟨z, e3, e4⟩ := Option.map_eq_some_iff.mp e
      cases e4
      exact ⟨x, h1, e1, y, h2, e2, hc, v, e3, p⟩
    · cases e
  · rintro ⟨x, h1, e1, y, h2, e2, hc, z, e3, p⟩
    exact ⟨z, h2, by simp [aR, e1, e2, hc, e3], p⟩
theorem q_aN {c : Nat} {a : DR} {P : Int32 → Hp → Prop} : ev (aN c a) E h P ↔ ev a E h fun x h1 => (x < h1.1 ∧ (LY x).1 = c) ∧ P (Int32.ofNat (LY x).2) h1 := by
  constructor
  · rintro ⟨v, h', e, p⟩
    obtain ⟨⟨x, h1⟩, e1, e⟩ := bind_some2 e
    split at e
    · rename_i hc
      cases e
      exact ⟨x, h1, e1, hc, p⟩
    · cases e
  · rintro ⟨x, h1, e1, hc, p⟩
    exact ⟨_, h1, by simp [aN, e1, hc], p⟩
theorem q_tn {c : DC} {a b : En → Hp → Option (α × Hp)} {P : α → Hp → Prop} : ev (tn c a b) E h P ↔ ev c E h fun t h1 => (t = true → ev a E h1 P) ∧ (t = false → ev b E h1 P) := by
  constructor
  · rintro ⟨v, h', e, p⟩
    obtain ⟨⟨t, h1⟩, e1, e⟩ := bind_some2 e
    refine ⟨t, h1, e1, fun ht => ⟨v, h', ?_, p⟩, fun ht => ⟨v, h', ?_, p⟩⟩
    · subst ht; simpa using e
    · subst ht; simpa using e
  · rintro ⟨t, h1, e1, ht, hf⟩
    cases t
    · obtain ⟨v, h', e, p⟩ := hf rfl
      exact ⟨v, h', by simp [tn, e1, e], p⟩
    · obtain ⟨v, h', e, p⟩ := ht rfl
      exact ⟨v, h', by simp [tn, e1, e], p⟩
theorem q_cmp {op : Int32 → Int32 → Bool} {a b : DI} {P : Bool → Hp → Prop} : ev (cmp op a b) E h P ↔ ev a E h fun x h1 => ev b E h1 fun y h2 => P (op x y) h2 := q_bn (op := op)
theorem q_cmz {op : Int32 → Bool} {a : DI} {P : Bool → Hp → Prop} : ev (cmz op a) E h P ↔ ev a E h fun x h1 => P (op x) h1 := q_un (op := op)
theorem q_cnt {a : DC} {P : Bool → Hp → Prop} : ev (cnt a) E h P ↔ ev a E h fun x h1 => P (!x) h1 := q_un (op := fun x : Bool => !x)
theorem q_ctt {P : Bool → Hp → Prop} : ev ctt E h P ↔ P true h := q_some (x := (true, h)) ctt rfl
theorem q_cand {a b : DC} {P : Bool → Hp → Prop} : ev (cand a b) E h P ↔ ev a E h fun t h1 => (t = true → ev b E h1 P) ∧ (t = false → P false h1) := by
  constructor
  · rintro ⟨v, h', e, p⟩
    obtain ⟨⟨t, h1⟩, e1, e⟩ := bind_some2 e
    refine ⟨t, h1, e1, fun ht => ⟨v, h', ?_, p⟩, fun ht => ?_⟩
    · subst ht; simpa using e
    · subst ht
      have : v = false ∧ h' = h1 := by simpa [eq_comm] using e
      obtain ⟨rfl, rfl⟩ := this
      exact p
  · rintro ⟨t, h1, e1, ht, hf⟩
    cases t
    · exact ⟨false, h1, by simp [cand, e1], hf rfl⟩
    · obtain ⟨v, h', e, p⟩ := ht rfl
      exact ⟨v, h', by simp [cand, e1, e], p⟩
theorem q_cor {a b : DC} {P : Bool → Hp → Prop} : ev (cor a b) E h P ↔ ev a E h fun t h1 => (t = true → P true h1) ∧ (t = false → ev b E h1 P) := by
  constructor
  · rintro ⟨v, h', e, p⟩
    obtain ⟨⟨t, h1⟩, e1, e⟩ := bind_some2 e
    refine ⟨t, h1, e1, fun ht => ?_, fun ht => ⟨v, h', ?_, p⟩⟩
    · subst ht
      have : v = true ∧ h' = h1 := by simpa [eq_comm] using e
      obtain ⟨rfl, rfl⟩ := this
      exact p
    · subst ht; simpa using e
  · rintro ⟨t, h1, e1, ht, hf⟩
    cases t
    · obtain ⟨v, h', e, p⟩ := hf rfl
      exact ⟨v, h', by simp [cor, e1, e], p⟩
    · exact ⟨true, h1, by simp [cor, e1], ht rfl⟩
theorem q_vn {P : List Value → Hp → Prop} : ev vn E h P ↔ P [] h := q_some (x := ([], h)) vn rfl
theorem q_vI {a : DA} {b : DI} {P : List Value → Hp → Prop} : ev (vI a b) E h P ↔ ev a E h fun x h1 => ev b E h1 fun y h2 => P (x ++ [.int y]) h2 := q_bn (op := fun (x : List Value) (y : Int32) => x ++ [Value.int y])
theorem q_vR {a : DA} {b : DR} {P : List Value → Hp → Prop} : ev (vR a b) E h P ↔ ev a E h fun x h1 => ev b E h1 fun y h2 => P (x ++ [.ref y]) h2 := q_bn (op := fun (x : List Value) (y : Nat) => x ++ [Value.ref y])
theorem q_vL {a : DA} {b : DL} {P : List Value → Hp → Prop} : ev (vL a b) E h P ↔ ev a E h fun x h1 => ev b E h1 fun y h2 => P (x ++ [.long y]) h2 := q_bn (op := fun (x : List Value) (y : Int64) => x ++ [Value.long y])
theorem q_kI {g : List Value → Hp → Bool} {F : FN} {a : DA} {P : Int32 → Hp → Prop} : ev (kI g F a) E h P ↔ ev a E h fun vs h1 => g vs h1 = true ∧ fq F vs h1 fun r h2 => ∃ x, r = some (.int x) ∧ P x h2 := by
  constructor
  · rintro ⟨v, h', e, p⟩
    obtain ⟨vs, h1, e1, hg, e2⟩ := kI_inv e
    exact ⟨vs, h1, e1, hg, _, h', e2, v, rfl, p⟩
  · rintro ⟨vs, h1, e1, hg, r, h', e2, v, rfl, p⟩
    exact ⟨v, h', by simp [kI, e1, hg, e2], p⟩
theorem q_kR {g : List Value → Hp → Bool} {F : FN} {a : DA} {P : Nat → Hp → Prop} : ev (kR g F a) E h P ↔ ev a E h fun vs h1 => g vs h1 = true ∧ fq F vs h1 fun r h2 => ∃ x, r = some (.ref x) ∧ P x h2 := by
  constructor
  · rintro ⟨v, h', e, p⟩
    obtain ⟨vs, h1, e1, hg, e2⟩ := kR_inv e
    exact ⟨vs, h1, e1, hg, _, h', e2, v, rfl, p⟩
  · rintro ⟨vs, h1, e1, hg, r, h', e2, v, rfl, p⟩
    exact ⟨v, h', by simp [kR, e1, hg, e2], p⟩
theorem q_kL {g : List Value → Hp → Bool} {F : FN} {a : DA} {P : Int64 → Hp → Prop} : ev (kL g F a) E h P ↔ ev a E h fun vs h1 => g vs h1 = true ∧ fq F vs h1 fun r h2 => ∃ x, r = some (.long x) ∧ P x h2 := by
  constructor
  · rintro ⟨v, h', e, p⟩
    obtain ⟨vs, h1, e1, hg, e2⟩ := kL_inv e
    exact ⟨vs, h1, e1, hg, _, h', e2, v, rfl, p⟩
  · rintro ⟨vs, h1, e1, hg, r, h', e2, v, rfl, p⟩
    exact ⟨v, h', by simp [kL, e1, hg, e2], p⟩
theorem q_ckI {b : DI} {P : Int32 → Hp → Prop} : ev (ckI b) E h P ↔ ev b E h fun y h1 => inI y 8 = true ∧ P (ckT y.toNatClampNeg) h1 := by
  constructor
  · rintro ⟨v, h', e, p⟩
    obtain ⟨⟨x, h1⟩, e1, e⟩ := bind_some2 e
    split at e
    · rename_i hc
      cases e
      exact ⟨x, h1, e1, hc, p⟩
    · cases e
  · rintro ⟨x, h1, e1, hc, p⟩
    exact ⟨_, h1, by simp [ckI, e1, hc], p⟩
/-! statements -/
variable {Q : Nat → Value → En → Hp → Prop}
theorem w_some {x : Rs} (f : Sm) (e : f E h = some x) : wp f E h Q ↔ Q x.1 x.2.1 x.2.2.1 x.2.2.2 := by
  constructor
  · rintro ⟨o, v, E', h', e2, p⟩
    rw [e] at e2
    cases e2
    exact p
  · intro p
    exact ⟨_, _, _, _, e, p⟩
theorem w_one {f : En → Hp → Option (α × Hp)} {g : α × Hp → Rs} : wp (fun E h => (f E h).bind fun x => some (g x)) E h Q ↔ ev f E h fun x h1 => Q (g (x, h1)).1 (g (x, h1)).2.1 (g (x, h1)).2.2.1 (g (x, h1)).2.2.2 := by
  constructor
  · rintro ⟨o, v, E', h', e, p⟩
    obtain ⟨⟨x, h1⟩, e1, e⟩ := bind_some2 e
    refine ⟨x, h1, e1, ?_⟩
    dsimp only
    rw [Option.some.inj e]
    exact p
  · rintro ⟨x, h1, e1, p⟩
    exact ⟨_, _, _, _, by show (f E h).bind _ = _; rw [e1]; rfl, p⟩
theorem w_sI {i : Nat} {a : DI} : wp (sI i a) E h Q ↔ ev a E h fun x h1 => Q 0 .null (st1 E i (.int x)) h1 := w_one
theorem w_sR {i : Nat} {a : DR} : wp (sR i a) E h Q ↔ ev a E h fun x h1 => Q 0 .null (st1 E i (.ref x)) h1 := w_one
theorem w_sL {i : Nat} {a : DL} : wp (sL i a) E h Q ↔ ev a E h fun x h1 => Q 0 .null (st2 E i (.long x)) h1 := w_one
theorem w_sC {i : Nat} {k : Int32} : wp (sC i k) E h Q ↔ ∃ x, E[i]? = some (.int x) ∧ Q 0 .null (st1 E i (.int (x + k))) h := by
  rw [← q_ldI (P := fun x h1 => Q 0 .null (st1 E i (.int (x + k))) h1)]
  exact w_one
theorem w_sk : wp sk E h Q ↔ Q 0 .null E h := w_some (x := (0, .null, E, h)) sk rfl
theorem w_sbr : wp sbr E h Q ↔ Q 3 .null E h := w_some (x := (3, .null, E, h)) sbr rfl
theorem w_sco : wp sco E h Q ↔ Q 4 .null E h := w_some (x := (4, .null, E, h)) sco rfl
theorem w_rV : wp rV E h Q ↔ Q 1 .null E h := w_some (x := (1, .null, E, h)) rV rfl
theorem w_rI {a : DI} : wp (rI a) E h Q ↔ ev a E h fun x h1 => Q 2 (.int x) E h1 := w_one
theorem w_rR {a : DR} : wp (rR a) E h Q ↔ ev a E h fun x h1 => Q 2 (.ref x) E h1 := w_one
theorem w_rL {a : DL} : wp (rL a) E h Q ↔ ev a E h fun x h1 => Q 2 (.long x) E h1 := w_one
theorem w_dI {a : DI} : wp (dI a) E h Q ↔ ev a E h fun _ h1 => Q 0 .null E h1 := w_one
theorem w_sO : wp sO E h Q ↔ ∃ x, E[0]? = some (.ref x) ∧ Q 0 .null E h := by
  rw [← q_ldR (P := fun _ h1 => Q 0 .null E h1)]
  exact w_one
theorem w_sq {a b : Sm} : wp (sq a b) E h Q ↔ wp a E h fun o v E1 h1 => (o = 0 → wp b E1 h1 Q) ∧ (o ≠ 0 → Q o v E1 h1) := by
  constructor
  · rintro ⟨o, v, E', h', e, p⟩
    obtain ⟨⟨o1, v1, E1, h1⟩, e1, e⟩ := bind_some2 e
    refine ⟨o1, v1, E1, h1, e1, fun ho => ⟨o, v, E', h', ?_, p⟩, fun ho => ?_⟩
    · rw [if_pos ho] at e; exact e
    · rw [if_neg ho] at e; cases e; exact p
  · rintro ⟨o1, v1, E1, h1, e1, h0, hn⟩
    by_cases ho : o1 = 0
    · obtain ⟨o, v, E', h', e, p⟩ := h0 ho
      exact ⟨o, v, E', h', by simp [sq, e1, ho, e], p⟩
    · exact ⟨o1, v1, E1, h1, by simp [sq, e1, ho], hn ho⟩
theorem w_si {c : DC} {a b : Sm} : wp (si c a b) E h Q ↔ ev c E h fun t h1 => (t = true → wp a E h1 Q) ∧ (t = false → wp b E h1 Q) := by
  constructor
  · rintro ⟨o, v, E', h', e, p⟩
    obtain ⟨⟨t, h1⟩, e1, e⟩ := bind_some2 e
    refine ⟨t, h1, e1, fun ht => ⟨o, v, E', h', ?_, p⟩, fun ht => ⟨o, v, E', h', ?_, p⟩⟩
    · subst ht; simpa using e
    · subst ht; simpa using e
  · rintro ⟨t, h1, e1, ht, hf⟩
    cases t
    · obtain ⟨o, v, E', h', e, p⟩ := hf rfl
      exact ⟨o, v, E', h', by simp [si, e1, e], p⟩
    · obtain ⟨o, v, E', h', e, p⟩ := ht rfl
      exact ⟨o, v, E', h', by simp [si, e1, e], p⟩
theorem w_pI {c k : Nat} {a : DR} {b : DI} : wp (pI c k a b) E h Q ↔ ev a E h fun x h1 => ev b E h1 fun y h2 => (x < h2.1 ∧ (LY x).1 = c) ∧ Q 0 .null E (wI h2 x k y) := by
  constructor
  · rintro ⟨o, v, E', h', e, p⟩
    obtain ⟨⟨x, h1⟩, e1, e⟩ := bind_some2 e
    obtain ⟨⟨y, h2⟩, e2, e⟩ := bind_some2 e
    split at e
    · rename_i hc
      cases e
      exact ⟨x, h1, e1, y, h2, e2, hc, p⟩
    · cases e
  · rintro ⟨x, h1, e1, y, h2, e2, hc, p⟩
    exact ⟨_, _, _, _, by simp [pI, e1, e2, hc], p⟩
theorem w_pZ {c k : Nat} {a : DR} {b : DI} : wp (pZ c k a b) E h Q ↔ ev a E h fun x h1 => ev b E h1 fun y h2 => (x < h2.1 ∧ (LY x).1 = c ∧ (y = 0 ∨ y = 1)) ∧ Q 0 .null E (wI h2 x k y) := by
  constructor
  · rintro ⟨o, v, E', h', e, p⟩
    obtain ⟨⟨x, h1⟩, e1, e⟩ := bind_some2 e
    obtain ⟨⟨y, h2⟩, e2, e⟩ := bind_some2 e
    split at e
    · rename_i hc
      cases e
      exact ⟨x, h1, e1, y, h2, e2, hc, p⟩
    · cases e
  · rintro ⟨x, h1, e1, y, h2, e2, hc, p⟩
    exact ⟨_, _, _, _, by simp [pZ, e1, e2, hc], p⟩
theorem w_pR {c k : Nat} {a b : DR} : wp (pR c k a b) E h Q ↔ ev a E h fun x h1 => ev b E h1 fun y h2 => (x < h2.1 ∧ (LY x).1 = c) ∧ Q 0 .null E (wR h2 x k (some y)) := by
  constructor
  · rintro ⟨o, v, E', h', e, p⟩
    obtain ⟨⟨x, h1⟩, e1, e⟩ := bind_some2 e
    obtain ⟨⟨y, h2⟩, e2, e⟩ := bind_some2 e
    split at e
    · rename_i hc
      cases e
      exact ⟨x, h1, e1, y, h2, e2, hc, p⟩
    · cases e
  · rintro ⟨x, h1, e1, y, h2, e2, hc, p⟩
    exact ⟨_, _, _, _, by simp [pR, e1, e2, hc], p⟩
theorem w_pU {c k : Nat} {op : Int32 → Int32 → Int32} {a : DR} {b : DI} : wp (pU c k op a b) E h Q ↔ ev a E h fun x h1 => (x < h1.1 ∧ (LY x).1 = c) ∧ ev b E h1 fun y h2 => Q 0 .null E (wI h2 x k (op (h1.2.1 x k) y)) := by
  constructor
  · rintro ⟨o, v, E', h', e, p⟩
    obtain ⟨⟨x, h1⟩, e1, e⟩ := bind_some2 e
    split at e
    · rename_i hc
      obtain ⟨⟨y, h2⟩, e2, e⟩ := bind_some2 e
      cases e
      exact ⟨x, h1, e1, hc, y, h2, e2, p⟩
    · cases e
  · rintro ⟨x, h1, e1, hc, y, h2, e2, p⟩
    exact ⟨_, _, _, _, by simp [pU, e1, hc, e2], p⟩
theorem w_q3 {a : DR} {i b : DI} {P : Nat → Int32 → Int32 → Hp → Prop} [∀ x j y hy, Decidable (P x j y hy)] {g : Nat → Int32 → Int32 → Hp → Rs} : wp (fun E h => (a E h).bind fun x => (i E x.2).bind fun j => (b E j.2).bind fun y => if P x.1 j.1 y.1 y.2 then some (g x.1 j.1 y.1 y.2) else none) E h Q ↔ ev a E h fun x h1 => ev i E h1 fun j h2 => ev b E h2 fun y h3 => P x j y h3 ∧ Q (g x j y h3).1 (g x j y h3).2.1 (g x j y h3).2.2.1 (g x j y h3).2.2.2 := by
  constructor
  · rintro ⟨o, v, E', h', e, p⟩
    obtain ⟨⟨x, h1⟩, e1, e⟩ := bind_some2 e
    obtain ⟨⟨j, h2⟩, e2, e⟩ := bind_some2 e
    obtain ⟨⟨y, h3⟩, e3, e⟩ := bind_some2 e
    split at e
    · rename_i hc
      refine ⟨x, h1, e1, j, h2, e2, y, h3, e3, hc, ?_⟩
      rw [Option.some.inj e]
      exact p
    · cases e
  · rintro ⟨x, h1, e1, j, h2, e2, y, h3, e3, hc, p⟩
    exact ⟨_, _, _, _, by simp only [e1, e2, e3, Option.bind_some]; rw [if_pos hc], p⟩
theorem w_qI {c : Nat} {a : DR} {i b : DI} : wp (qI c a i b) E h Q ↔ ev a E h fun x h1 => ev i E h1 fun j h2 => ev b E h2 fun y h3 => (x < h3.1 ∧ (LY x).1 = c ∧ inI j (LY x).2 = true) ∧ Q 0 .null E (wI h3 x j.toNatClampNeg y) := w_q3 (P := fun x j _ h3 => x < h3.1 ∧ (LY x).1 = c ∧ inI j (LY x).2 = true) (g := fun x j y h3 => (0, .null, E, wI h3 x j.toNatClampNeg y))
theorem w_qB {c : Nat} {a : DR} {i b : DI} : wp (qB c a i b) E h Q ↔ ev a E h fun x h1 => ev i E h1 fun j h2 => ev b E h2 fun y h3 => (x < h3.1 ∧ (LY x).1 = c ∧ inI j (LY x).2 = true) ∧ Q 0 .null E (wI h3 x j.toNatClampNeg y.toInt8.toInt32) := w_q3 (P := fun x j _ h3 => x < h3.1 ∧ (LY x).1 = c ∧ inI j (LY x).2 = true) (g := fun x j y h3 => (0, .null, E, wI h3 x j.toNatClampNeg y.toInt8.toInt32))
theorem w_qZ {c : Nat} {a : DR} {i b : DI} : wp (qZ c a i b) E h Q ↔ ev a E h fun x h1 => ev i E h1 fun j h2 => ev b E h2 fun y h3 => (x < h3.1 ∧ (LY x).1 = c ∧ inI j (LY x).2 = true ∧ (y = 0 ∨ y = 1)) ∧ Q 0 .null E (wI h3 x j.toNatClampNeg y) := w_q3 (P := fun x j y h3 => x < h3.1 ∧ (LY x).1 = c ∧ inI j (LY x).2 = true ∧ (y = 0 ∨ y = 1)) (g := fun x j y h3 => (0, .null, E, wI h3 x j.toNatClampNeg y))
theorem w_qU {c : Nat} {op : Int32 → Int32 → Int32} {a : DR} {i b : DI} : wp (qU c op a i b) E h Q ↔ ev a E h fun x h1 => ev i E h1 fun j h2 => (x < h2.1 ∧ (LY x).1 = c ∧ inI j (LY x).2 = true) ∧ ev b E h2 fun y h3 => Q 0 .null E (wI h3 x j.toNatClampNeg (op (h2.2.1 x j.toNatClampNeg) y)) := by
  constructor
  · rintro ⟨o, v, E', h', e, p⟩
    obtain ⟨⟨x, h1⟩, e1, e⟩ := bind_some2 e
    obtain ⟨⟨j, h2⟩, e2, e⟩ := bind_some2 e
    split at e
    · rename_i hc
      obtain ⟨⟨y, h3⟩, e3, e⟩ := bind_some2 e
      cases e
      exact ⟨x, h1, e1, j, h2, e2, hc, y, h3, e3, p⟩
    · cases e
  · rintro ⟨x, h1, e1, j, h2, e2, hc, y, h3, e3, p⟩
    exact ⟨_, _, _, _, by simp [qU, e1, e2, hc, e3], p⟩
theorem w_qR {c ce : Nat} {a : DR} {i : DI} {b : DR} : wp (qR c ce a i b) E h Q ↔ ev a E h fun x h1 => ev i E h1 fun j h2 => ev b E h2 fun y h3 => (x < h3.1 ∧ (LY x).1 = c ∧ inI j (LY x).2 = true ∧ y < h3.1 ∧ (LY y).1 = ce) ∧ Q 0 .null E (wR h3 x j.toNatClampNeg (some y)) := by
  constructor
  · rintro ⟨o, v, E', h', e, p⟩
    obtain ⟨⟨x, h1⟩, e1, e⟩ := bind_some2 e
    obtain ⟨⟨j, h2⟩, e2, e⟩ := bind_some2 e
    obtain ⟨⟨y, h3⟩, e3, e⟩ := bind_some2 e
    split at e
    · rename_i hc
      cases e
      exact ⟨x, h1, e1, j, h2, e2, y, h3, e3, hc, p⟩
    · cases e
  · rintro ⟨x, h1, e1, j, h2, e2, y, h3, e3, hc, p⟩
    exact ⟨_, _, _, _, by simp [qR, e1, e2, e3, hc], p⟩
theorem w_kV {g : List Value → Hp → Bool} {F : FN} {a : DA} : wp (kV g F a) E h Q ↔ ev a E h fun vs h1 => g vs h1 = true ∧ fq F vs h1 fun r h2 => r = none ∧ Q 0 .null E h2 := by
  constructor
  · rintro ⟨o, v, E', h', e, p⟩
    obtain ⟨⟨vs, h1⟩, e1, e⟩ := bind_some2 e
    split at e
    · rename_i hg
      split at e
      · rename_i hF
        cases e
        exact ⟨vs, h1, e1, hg, none, _, hF, rfl, p⟩
      · cases e
    · cases e
  · rintro ⟨vs, h1, e1, hg, r, h2, hF, rfl, p⟩
    exact ⟨_, _, _, _, by simp [kV, e1, hg, hF], p⟩
theorem w_sw {a : DI} {lo : Int} {ss : List Sm} {df : Sm} : wp (sw a lo ss df) E h Q ↔ ev a E h fun x h1 => wp (if x.toInt < lo then df else (ss[(x.toInt - lo).toNat]?).getD df) E h1 fun o v E1 h2 => Q (if o = 3 then 0 else o) v E1 h2 := by
  constructor
  · rintro ⟨o, v, E', h', e, p⟩
    obtain ⟨⟨x, h1⟩, e1, e⟩ := bind_some2 e
    obtain ⟨⟨o1, v1, E1, g1⟩, e2, e3⟩ := Option.map_eq_some_iff.mp e
    refine ⟨x, h1, e1, o1, v1, E1, g1, e2, ?_⟩
    by_cases ho : o1 = 3
    · rw [if_pos ho] at e3 ⊢; cases e3; exact p
    · rw [if_neg ho] at e3 ⊢; cases e3; exact p
  · rintro ⟨x, h1, e1, o1, v1, E1, g1, e2, p⟩
    refine ⟨if o1 = 3 then 0 else o1, v1, E1, g1, ?_, p⟩
    show ((a E h).bind _) = _
    rw [e1]
    show Option.map _ _ = _
    rw [e2]
    by_cases ho : o1 = 3 <;> simp [ho]
theorem f_mkF {nL : Nat} {ret : Option FieldType} {b : Sm} {vs : List Value} {P : Option Value → Hp → Prop} : fq (mkF nL ret b) vs h P ↔ (argE vs).length ≤ nL ∧ wp b (envN nL vs) h fun o v _ h' => (o = 1 ∧ ret = none ∧ P none h') ∨ (o = 2 ∧ rok ret v = true ∧ P (some v) h') := by
  constructor
  · rintro ⟨r, h', e, p⟩
    obtain ⟨hl, o, v, E', e1, hor⟩ := mkF_inv e
    refine ⟨hl, o, v, E', h', e1, ?_⟩
    rcases hor with ⟨a1, rfl, a3⟩ | ⟨a1, rfl, a3⟩
    · exact Or.inl ⟨a1, a3, p⟩
    · exact Or.inr ⟨a1, a3, p⟩
  · rintro ⟨hl, o, v, E', h', e1, ⟨rfl, a3, p⟩ | ⟨rfl, a3, p⟩⟩
    · exact ⟨none, h', by simp [mkF, hl, e1, a3], p⟩
    · exact ⟨some v, h', by simp [mkF, hl, e1, a3], p⟩
/-- a loop: I k holds at its head, k falls each time round -/
theorem w_lp {c : DC} {b s : Sm} (I : Nat → En → Hp → Prop) (hI : ∀ k E h, I k E h → ev c E h fun t h1 => (t = false → Q 0 .null E h1) ∧ (t = true → wp b E h1 fun o v E1 h2 => ((o = 0 ∨ o = 4) → wp s E1 h2 fun o2 _ E2 h3 => o2 = 0 ∧ ∃ k2, k2 < k ∧ I k2 E2 h3) ∧ (o = 3 → Q 0 .null E1 h2) ∧ (o ≠ 0 → o ≠ 4 → o ≠ 3 → Q o v E1 h2))) : ∀ k E h, I k E h → wp (lp c b s) E h Q := by
  intro k
  induction k using Nat.strongRecOn with
  | ind k ih =>
    intro E h hk
    obtain ⟨t, h1, e1, hf, ht⟩ := hI k E h hk
    cases t
    · exact ⟨_, _, _, _, by rw [lp_eq, e1]; rfl, hf rfl⟩
    · obtain ⟨o, v, E1, h2, e2, q0, q3, qr⟩ := ht rfl
      by_cases ho : o = 0 ∨ o = 4
      · obtain ⟨o2, v2, E2, h3, e3, rfl, k2, hk2, hI2⟩ := q0 ho
        obtain ⟨o4, v4, E4, h4, e4, p4⟩ := ih k2 hk2 E2 h3 hI2
        refine ⟨o4, v4, E4, h4, ?_, p4⟩
        rw [lp_eq, e1]
        simp only [Option.bind_some, if_true, e2]
        rw [if_pos ho]
        simp only [e3, Option.bind_some, if_true]
        exact e4
      · by_cases h3 : o = 3
        · refine ⟨0, .null, E1, h2, ?_, q3 h3⟩
          rw [lp_eq, e1]
          simp only [Option.bind_some, if_true, e2]
          rw [if_neg ho, if_pos h3]
        · refine ⟨o, v, E1, h2, ?_, qr (fun z => ho (Or.inl z)) (fun z => ho (Or.inr z)) h3⟩
          rw [lp_eq, e1]
          simp only [Option.bind_some, if_true, e2]
          rw [if_neg ho, if_neg h3]
end WPR
