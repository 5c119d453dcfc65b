/-! one statement at a time: what it reckons changes no cell -/
theorem w_sqI {i : Nat} {a : DI} {b : Sm} {E E' : En} {h : Hp} {Q : Nat → Value → En → Hp → Prop} (v : Int32) (ha : ev a E h fun x h1 => x = v ∧ h1 = h) (hE : st1 E i (.int v) = E') (hb : wp b E' h Q) : wp (sq (sI i a) b) E h Q := by
  refine w_sqN ?_
  rw [w_sI]
  refine ev_mono ha ?_
  rintro x h1 ⟨rfl, rfl⟩
  rw [hE]
  exact ⟨rfl, hb⟩
theorem w_sqR {i : Nat} {a : DR} {b : Sm} {E E' : En} {h : Hp} {Q : Nat → Value → En → Hp → Prop} (v : Nat) (ha : ev a E h fun x h1 => x = v ∧ h1 = h) (hE : st1 E i (.ref v) = E') (hb : wp b E' h Q) : wp (sq (sR i a) b) E h Q := by
  refine w_sqN ?_
  rw [w_sR]
  refine ev_mono ha ?_
  rintro x h1 ⟨rfl, rfl⟩
  rw [hE]
  exact ⟨rfl, hb⟩
theorem w_sIe {i : Nat} {a : DI} {E E' : En} {h : Hp} {Q : Nat → Value → En → Hp → Prop} (v : Int32) (ha : ev a E h fun x h1 => x = v ∧ h1 = h) (hE : st1 E i (.int v) = E') (hb : Q 0 .null E' h) : wp (sI i a) E h Q := by
  rw [w_sI]
  refine ev_mono ha ?_
  rintro x h1 ⟨rfl, rfl⟩
  rw [hE]
  exact hb
theorem w_sCe {i : Nat} {k : Int32} {E E' : En} {h : Hp} {Q : Nat → Value → En → Hp → Prop} (x v : Int32) (hx : E[i]? = some (.int x)) (hv : x + k = v) (hE : st1 E i (.int v) = E') (hb : Q 0 .null E' h) : wp (sC i k) E h Q := by
  rw [w_sC]
  refine ⟨x, hx, ?_⟩
  rw [hv, hE]
  exact hb
theorem w_qIe {c : Nat} {a : DR} {i b : DI} {E : En} {h : Hp} {Q : Nat → Value → En → Hp → Prop} (A j : Nat) (v : Int32) (ha : ev a E h fun x h1 => x = A ∧ h1 = h) (hi : ev i E h fun x h1 => x = nI j ∧ h1 = h) (hb : ev b E h fun x h1 => x = v ∧ h1 = h) (hA : A < h.1) {m : Nat} (hL : LY A = (c, m)) (hj : j < m) (hm : m < 10000) (hQ : Q 0 .null E (wI h A j v)) : wp (qI c a i b) E h Q := by
  rw [w_qI]
  refine ev_mono ha ?_
  rintro x h1 ⟨rfl, rfl⟩
  refine ev_mono hi ?_
  rintro y h1 ⟨rfl, rfl⟩
  refine ev_mono hb ?_
  rintro z h1 ⟨rfl, rfl⟩
  rw [hL]
  refine ⟨⟨hA, rfl, ?_⟩, ?_⟩
  · rw [inI_b (by omega)]; simp [hj]
  · rw [nI_clamp (by omega)]; exact hQ
theorem w_qIf {c : Nat} {a : DR} {i b : DI} {E : En} {h : Hp} {Q : Nat → Value → En → Hp → Prop} (A j : Nat) (ha : ev a E h fun x h1 => x = A ∧ h1 = h) (hi : ev i E h fun x h1 => x = nI j ∧ h1 = h) {m : Nat} (hL : LY A = (c, m)) (hj : j < m) (hm : m < 10000) (hb : ev b E h fun v h1 => A < h1.1 ∧ Q 0 .null E (wI h1 A j v)) : wp (qI c a i b) E h Q := by
  rw [w_qI]
  refine ev_mono ha ?_
  rintro x h1 ⟨rfl, rfl⟩
  refine ev_mono hi ?_
  rintro y h1 ⟨rfl, rfl⟩
  refine ev_mono hb ?_
  rintro z h1 ⟨z1, z2⟩
  rw [hL]
  refine ⟨⟨z1, rfl, ?_⟩, ?_⟩
  · rw [inI_b (by omega)]; simp [hj]
  · rw [nI_clamp (by omega)]; exact z2
theorem w_sqS {a b : Sm} {E : En} {h : Hp} {Q : Nat → Value → En → Hp → Prop} (P : En → Hp → Prop) (ha : wp a E h fun o _ E1 h1 => o = 0 ∧ P E1 h1) (hb : ∀ E1 h1, P E1 h1 → wp b E1 h1 Q) : wp (sq a b) E h Q := w_sqN (wp_mono ha fun _ _ _ _ z => ⟨z.1, hb _ _ z.2⟩)
theorem w_kVe {g : List Value → Hp → Bool} {F : FN} {a : DA} {E : En} {h : Hp} {Q : Nat → Value → En → Hp → Prop} (vs : List Value) (ha : ev a E h fun x h1 => x = vs ∧ h1 = h) (hg : g vs h = true) (hf : fq F vs h fun r h2 => r = none ∧ Q 0 .null E h2) : wp (kV g F a) E h Q := by
  rw [w_kV]
  refine ev_mono ha ?_
  rintro x h1 ⟨rfl, rfl⟩
  exact ⟨hg, hf⟩
theorem q_kIe {g : List Value → Hp → Bool} {F : FN} {a : DA} {E : En} {h : Hp} {P : Int32 → Hp → Prop} (vs : List Value) (ha : ev a E h fun x h1 => x = vs ∧ h1 = h) (hg : g vs h = true) (hf : fq F vs h fun r h2 => ∃ x, r = some (.int x) ∧ P x h2) : ev (kI g F a) E h P := by
  rw [q_kI]
  refine ev_mono ha ?_
  rintro x h1 ⟨rfl, rfl⟩
  exact ⟨hg, hf⟩
theorem w_siN {c : DC} {a b : Sm} {E : En} {h : Hp} {Q : Nat → Value → En → Hp → Prop} (t : Bool) (hc : ev c E h fun x h1 => x = t ∧ h1 = h) (h1 : t = true → wp a E h Q) (h2 : t = false → wp b E h Q) : wp (si c a b) E h Q := by
  rw [w_si]
  refine ev_mono hc ?_
  rintro x h3 ⟨rfl, rfl⟩
  exact ⟨h1, h2⟩
theorem f_mkE {nL : Nat} {ret : Option FieldType} {b : Sm} {vs : List Value} {h : Hp} {P : Option Value → Hp → Prop} (E : En) (hE : envN nL vs = E) (hl : (argE vs).length ≤ nL) (hb : wp b E h fun o v _ h' => (o = 1 ∧ ret = none ∧ P none h') ∨ (o = 2 ∧ rok ret v = true ∧ P (some v) h')) : fq (mkF nL ret b) vs h P := by
  rw [f_mkF, hE]
  exact ⟨hl, hb⟩
