/-! roads: the cheapest ways, without cells -/
def updD (D : Nat → Int32) (b : Nat) (v : Int32) (l : Nat) : Int32 := if l = b then v else D l
theorem updD_e {D : Nat → Int32} {b : Nat} {v : Int32} : updD D b v b = v := if_pos rfl
theorem updD_n {D : Nat → Int32} {b l : Nat} {v : Int32} (h : l ≠ b) : updD D b v l = D l := if_neg h
def exf (f : Nat → Nat) (k l n : Nat) : Nat := if n ≤ k then f n else l
def cutf (f : Nat → Nat) (i d n : Nat) : Nat := if n ≤ i then f n else f (n + d)
def rlx (C : Nat → Nat → Int32) (D : Nat → Int32) (a b : Nat) : Nat → Int32 := if D a = -1 ∨ C a b = -1 then D else if D b = -1 ∨ D a + C a b < D b then (updD D b (D a + C a b)) else D
def rlB (C : Nat → Nat → Int32) (D : Nat → Int32) (a : Nat) : Nat → Nat → Int32
  | 0 => D
  | b + 1 => rlx C (rlB C D a b) a b
def rlA (C : Nat → Nat → Int32) (D : Nat → Int32) : Nat → Nat → Int32
  | 0 => D
  | a + 1 => rlB C (rlA C D a) a 6
def rds (C : Nat → Nat → Int32) (D : Nat → Int32) : Nat → Nat → Int32
  | 0 => D
  | r + 1 => rlA C (rds C D r) 6
def fr0 (src : Nat) : Nat → Int32 := fun l => if l = src then 0 else -1
/-- a way of k roads -/
def WK (C : Nat → Nat → Int32) (src k : Nat) (f : Nat → Nat) (l : Nat) : Prop := f 0 = src ∧ f k = l ∧ (∀ i, i ≤ k → f i < 6) ∧ ∀ i, i < k → C (f i) (f (i + 1)) ≠ -1
def cst (C : Nat → Nat → Int32) (f : Nat → Nat) : Nat → Nat
  | 0 => 0
  | n + 1 => cst C f n + (C (f n) (f (n + 1))).toNatClampNeg
def CV (C : Nat → Nat → Int32) : Prop := ∀ a b, a < 6 → b < 6 → -1 ≤ (C a b).toInt ∧ (C a b).toInt ≤ 10000
theorem CV.at {C : Nat → Nat → Int32} (h : CV C) {a b : Nat} (ha : a < 6) (hb : b < 6) (hc : C a b ≠ -1) : ∃ c : Nat, C a b = nI c ∧ c ≤ 10000 ∧ (C a b).toNatClampNeg = c := by
  have z := h a b ha hb
  have z2 : (C a b).toInt ≠ -1 := fun y => hc (Int32.toInt_inj.mp y)
  have z3 := clampI (x := C a b) (by omega)
  exact ⟨(C a b).toNatClampNeg, nI_toI (by omega), by omega, rfl⟩
def SND (C : Nat → Nat → Int32) (src B : Nat) (D : Nat → Int32) : Prop := ∀ l, l < 6 → D l = -1 ∨ ∃ k f, WK C src k f l ∧ D l = nI (cst C f k) ∧ cst C f k ≤ B
theorem SND.up {C : Nat → Nat → Int32} {src B B' : Nat} {D : Nat → Int32} (h : SND C src B D) (hB : B ≤ B') : SND C src B' D := by
  intro l hl
  rcases h l hl with e | ⟨k, f, w, e, b⟩
  · exact Or.inl e
  · exact Or.inr ⟨k, f, w, e, by omega⟩
theorem cst_c {C : Nat → Nat → Int32} {f g : Nat → Nat} : ∀ {n : Nat}, (∀ i, i ≤ n → g i = f i) → cst C g n = cst C f n := by
  intro n
  induction n with
  | zero => intro _; rfl
  | succ n ih =>
    intro h
    rw [cst, cst, ih fun i hi => h i (by omega), h n (by omega), h (n + 1) (by omega)]
theorem SND.r {C : Nat → Nat → Int32} (hC : CV C) {src B : Nat} {D : Nat → Int32} (h : SND C src B D) {a b : Nat} (ha : a < 6) (hb : b < 6) : SND C src (B + 10000) (rlx C D a b) := by
  unfold rlx
  by_cases c1 : D a = -1 ∨ C a b = -1
  · rw [if_pos c1]; exact h.up (by omega)
  · rw [if_neg c1]
    by_cases c2 : D b = -1 ∨ D a + C a b < D b
    · rw [if_pos c2]
      intro l hl
      by_cases hlb : l = b
      · subst hlb
        obtain ⟨c, e1, e2, e3⟩ := hC.at ha hb (fun z => c1 (Or.inr z))
        rcases h a ha with e | ⟨k, f, ⟨w1, w2, w3, w4⟩, e, bb⟩
        · exact absurd (Or.inl e) c1
        · have ea : ∀ i, i ≤ k → (exf f k l) i = f i := fun i hi => if_pos hi
          have el : (exf f k l) (k + 1) = l := if_neg (by omega)
          have ek : cst C (exf f k l) (k + 1) = cst C f k + c := by
            rw [cst, cst_c ea, ea k (Nat.le_refl _), el, w2, e3]
          refine Or.inr ⟨k + 1, exf f k l, ⟨(ea 0 (by omega)).trans w1, el, fun i hi => ?_, fun i hi => ?_⟩, ?_, by omega⟩
          · by_cases hik : i ≤ k
            · rw [ea i hik]; exact w3 i hik
            · show (if i ≤ k then f i else l) < 6
              rw [if_neg hik]; exact hb
          · by_cases hik : i < k
            · rw [ea i (by omega), ea (i + 1) (by omega)]; exact w4 i hik
            · have : i = k := by omega
              subst this
              rw [ea i (Nat.le_refl _), el, w2]
              exact fun z => c1 (Or.inr z)
          · rw [updD_e, ek, e, e1, nI_add]
      · rcases h l hl with e | ⟨k, f, w, e, bb⟩
        · exact Or.inl (by rw [updD_n hlb]; exact e)
        · exact Or.inr ⟨k, f, w, by rw [updD_n hlb]; exact e, by omega⟩
    · rw [if_neg c2]; exact h.up (by omega)
/-- no worse -/
def DEC (D D' : Nat → Int32) : Prop := ∀ l, l < 6 → D l ≠ -1 → D' l ≠ -1 ∧ (D' l).toInt ≤ (D l).toInt
theorem DEC.refl (D : Nat → Int32) : DEC D D := fun _ _ h => ⟨h, Int.le_refl _⟩
theorem DEC.trans {D D' D'' : Nat → Int32} (a : DEC D D') (b : DEC D' D'') : DEC D D'' := fun l hl h => ⟨(b l hl (a l hl h).1).1, Int.le_trans (b l hl (a l hl h).1).2 (a l hl h).2⟩
theorem SND.b {C : Nat → Nat → Int32} {src B : Nat} {D : Nat → Int32} (h : SND C src B D) (hB : B < 2 ^ 29) {l : Nat} (hl : l < 6) (hd : D l ≠ -1) : ∃ d : Nat, D l = nI d ∧ d ≤ B ∧ (D l).toInt = d := by
  rcases h l hl with e | ⟨k, f, -, e, b⟩
  · exact absurd e hd
  · exact ⟨_, e, b, by rw [e, nI_toInt (by omega)]⟩
theorem rlx_d {C : Nat → Nat → Int32} (hC : CV C) {src B : Nat} (hB : B < 2 ^ 29) {D : Nat → Int32} (h : SND C src B D) {a b : Nat} (ha : a < 6) (hb : b < 6) : DEC D (rlx C D a b) ∧ (D a ≠ -1 → C a b ≠ -1 → rlx C D a b b ≠ -1 ∧ (rlx C D a b b).toInt ≤ (D a).toInt + (C a b).toNatClampNeg) := by
  unfold rlx
  by_cases c1 : D a = -1 ∨ C a b = -1
  · rw [if_pos c1]
    exact ⟨DEC.refl D, fun z1 z2 => absurd c1 (by rintro (y | y); exact z1 y; exact z2 y)⟩
  · rw [if_neg c1]
    have z1 : D a ≠ -1 := fun z => c1 (Or.inl z)
    have z2 : C a b ≠ -1 := fun z => c1 (Or.inr z)
    obtain ⟨d, e1, e2, e3⟩ := h.b hB ha z1
    obtain ⟨c, k1, k2, k3⟩ := hC.at ha hb z2
    have es : D a + C a b = nI (d + c) := by rw [e1, k1, nI_add]
    have est : (D a + C a b).toInt = ((d + c : Nat) : Int) := by rw [es, nI_toInt (by omega)]
    have esn : D a + C a b ≠ -1 := fun z => by
      rw [z] at est
      have : (-1 : Int32).toInt = -1 := rfl
      omega
    by_cases c2 : D b = -1 ∨ D a + C a b < D b
    · rw [if_pos c2]
      refine ⟨fun l hl hd => ?_, fun _ _ => ?_⟩
      · by_cases hlb : l = b
        · subst hlb
          rw [updD_e]
          refine ⟨esn, ?_⟩
          rcases c2 with z | z
          · exact absurd z hd
          · exact Int.le_of_lt (Int32.lt_iff_toInt_lt.mp z)
        · rw [updD_n hlb]; exact ⟨hd, Int.le_refl _⟩
      · rw [updD_e]
        exact ⟨esn, by rw [est, e3, k3]; omega⟩
    · rw [if_neg c2]
      refine ⟨DEC.refl D, fun _ _ => ⟨fun z => c2 (Or.inl z), ?_⟩⟩
      have : ¬ D a + C a b < D b := fun z => c2 (Or.inr z)
      have := Int32.le_iff_toInt_le.mp (Int32.not_lt.mp this)
      rw [e3, k3]
      omega
/-- the state of a round: what holds of it -/
theorem rlB_ok {C : Nat → Nat → Int32} (hC : CV C) {src B : Nat} (hB : B + 60000 < 2 ^ 29) {D : Nat → Int32} (h : SND C src B D) {a : Nat} (ha : a < 6) : ∀ n, n ≤ 6 → SND C src (B + 10000 * n) (rlB C D a n) ∧ DEC D (rlB C D a n) ∧ ∀ b, b < n → D a ≠ -1 → C a b ≠ -1 → rlB C D a n b ≠ -1 ∧ (rlB C D a n b).toInt ≤ (D a).toInt + (C a b).toNatClampNeg := by
  intro n
  induction n with
  | zero => intro _; exact ⟨h, DEC.refl D, fun b hb => by omega⟩
  | succ n ih =>
    intro hn
    obtain ⟨s, d, r⟩ := ih (by omega)
    obtain ⟨d2, r2⟩ := rlx_d hC (by omega) s ha (b := n) (by omega)
    have s2 := s.r hC ha (b := n) (by omega)
    refine ⟨s2.up (by omega), d.trans d2, fun b hb z1 z2 => ?_⟩
    by_cases hbn : b = n
    · subst hbn
      obtain ⟨y1, y2⟩ := r2 (d a ha z1).1 z2
      have := (d a ha z1).2
      exact ⟨y1, by show (rlx C (rlB C D a b) a b b).toInt ≤ _; omega⟩
    · obtain ⟨y1, y2⟩ := r b (by omega) z1 z2
      obtain ⟨y3, y4⟩ := d2 b (by omega) y1
      exact ⟨y3, by show (rlx C (rlB C D a n) a n b).toInt ≤ _; omega⟩
theorem rlA_ok {C : Nat → Nat → Int32} (hC : CV C) {src B : Nat} (hB : B + 360000 < 2 ^ 29) {D : Nat → Int32} (h : SND C src B D) : ∀ n, n ≤ 6 → SND C src (B + 60000 * n) (rlA C D n) ∧ DEC D (rlA C D n) ∧ ∀ a b, a < n → b < 6 → D a ≠ -1 → C a b ≠ -1 → rlA C D n b ≠ -1 ∧ (rlA C D n b).toInt ≤ (D a).toInt + (C a b).toNatClampNeg := by
  intro n
  induction n with
  | zero => intro _; exact ⟨h, DEC.refl D, fun a b ha => by omega⟩
  | succ n ih =>
    intro hn
    obtain ⟨s, d, r⟩ := ih (by omega)
    obtain ⟨s2, d2, r2⟩ := rlB_ok hC (by omega) s (a := n) (by omega) 6 (by omega)
    refine ⟨s2.up (by omega), d.trans d2, fun a b ha hb z1 z2 => ?_⟩
    by_cases han : a = n
    · subst han
      obtain ⟨y1, y2⟩ := r2 b hb (d a (by omega) z1).1 z2
      have := (d a (by omega) z1).2
      exact ⟨y1, by show (rlB C (rlA C D a) a 6 b).toInt ≤ _; omega⟩
    · obtain ⟨y1, y2⟩ := r a b (by omega) hb z1 z2
      obtain ⟨y3, y4⟩ := d2 b hb y1
      exact ⟨y3, by show (rlB C (rlA C D n) n 6 b).toInt ≤ _; omega⟩
theorem SND_0 (C : Nat → Nat → Int32) {src : Nat} (hs : src < 6) : SND C src 0 (fr0 src) := by
  intro l hl
  unfold fr0
  by_cases h : l = src
  · rw [if_pos h]
    exact Or.inr ⟨0, fun _ => src, ⟨rfl, h.symm, fun _ _ => hs, fun i hi => by omega⟩, rfl, Nat.le_refl _⟩
  · rw [if_neg h]; exact Or.inl rfl
theorem rds_s {C : Nat → Nat → Int32} (hC : CV C) {src : Nat} (hs : src < 6) : ∀ r, r ≤ 6 → SND C src (360000 * r) (rds C (fr0 src) r) := by
  intro r
  induction r with
  | zero => intro _; exact SND_0 C hs
  | succ r ih =>
    intro hr
    exact ((rlA_ok hC (by omega) (ih (by omega)) 6 (by omega)).1).up (by omega)
theorem rds_c {C : Nat → Nat → Int32} (hC : CV C) {src : Nat} (hs : src < 6) : ∀ r, r ≤ 6 → ∀ k, k ≤ r → ∀ f l, WK C src k f l → rds C (fr0 src) r l ≠ -1 ∧ (rds C (fr0 src) r l).toInt ≤ cst C f k := by
  intro r
  induction r with
  | zero =>
    intro _ k hk f l w
    have : k = 0 := by omega
    subst this
    have hl : l = src := w.2.1.symm.trans w.1
    subst hl
    show fr0 l l ≠ -1 ∧ (fr0 l l).toInt ≤ _
    unfold fr0
    rw [if_pos rfl]
    exact ⟨by decide, Int.le_refl _⟩
  | succ r ih =>
    intro hr k hk f l w
    have hl : l < 6 := by rw [← w.2.1]; exact w.2.2.1 k (Nat.le_refl _)
    obtain ⟨s2, d2, r2⟩ := rlA_ok hC (by omega) (rds_s hC hs r (by omega)) 6 (by omega)
    cases k with
    | zero =>
      obtain ⟨y1, y2⟩ := ih (by omega) 0 (by omega) f l w
      obtain ⟨y3, y4⟩ := d2 l hl y1
      exact ⟨y3, Int.le_trans y4 y2⟩
    | succ k =>
      obtain ⟨w1, w2, w3, w4⟩ := w
      obtain ⟨y1, y2⟩ := ih (by omega) k (by omega) f (f k) ⟨w1, rfl, fun i hi => w3 i (by omega), fun i hi => w4 i (by omega)⟩
      obtain ⟨y3, y4⟩ := r2 (f k) l (w3 k (by omega)) hl y1 (by rw [← w2]; exact w4 k (by omega))
      refine ⟨y3, ?_⟩
      rw [cst, w2]
      show (rlA C (rds C (fr0 src) r) 6 l).toInt ≤ _
      omega
theorem unm_z : ∀ m, m < 64 → unm m = 0 → ∀ x, x < 6 → m.testBit x = true := by decide +kernel
theorem bit_o : ∀ m, m < 64 → ∀ x, x < 6 → ∀ y, y < 6 → (m ||| 2 ^ x).testBit y = (m.testBit y || decide (y = x)) := by decide +kernel
/-- of seven lands two are the same -/
theorem pig {f : Nat → Nat} (hf : ∀ i, i ≤ 6 → f i < 6) : ∃ i j, i < j ∧ j ≤ 6 ∧ f i = f j := by
  have key : ∀ n, n ≤ 7 → (∃ i j, i < j ∧ j < n ∧ f i = f j) ∨ ∃ m, m < 64 ∧ unm m + n = 6 ∧ ∀ x, x < 6 → m.testBit x = true → ∃ i, i < n ∧ f i = x := by
    intro n
    induction n with
    | zero => intro _; exact Or.inr ⟨0, by omega, by decide, fun x _ h => by simp at h⟩
    | succ n ih =>
      intro hn
      rcases ih (by omega) with ⟨i, j, h1, h2, h3⟩ | ⟨m, m1, m2, m3⟩
      · exact Or.inl ⟨i, j, h1, by omega, h3⟩
      · have hx := hf n (by omega)
        cases hb : m.testBit (f n) with
        | true =>
          obtain ⟨i, i1, i2⟩ := m3 (f n) hx hb
          exact Or.inl ⟨i, n, i1, by omega, i2⟩
        | false =>
          have u := unm_s m m1 (f n) hx hb
          refine Or.inr ⟨m ||| 2 ^ f n, (mskA m m1 (f n) hx).2.2.2, by omega, fun x h1 h2 => ?_⟩
          rw [bit_o m m1 (f n) hx x h1] at h2
          simp at h2
          rcases h2 with h2 | h2
          · obtain ⟨i, i1, i2⟩ := m3 x h1 h2
            exact ⟨i, by omega, i2⟩
          · exact ⟨n, by omega, h2.symm⟩
  rcases key 7 (by omega) with ⟨i, j, h1, h2, h3⟩ | ⟨m, m1, m2, m3⟩
  · exact ⟨i, j, h1, by omega, h3⟩
  · omega
theorem cst_m {C : Nat → Nat → Int32} {f : Nat → Nat} : ∀ {i j : Nat}, i ≤ j → cst C f i ≤ cst C f j := by
  intro i j
  induction j with
  | zero => intro h; rw [show i = 0 by omega]; exact Nat.le_refl _
  | succ j ih =>
    intro h
    by_cases hij : i = j + 1
    · rw [hij]; exact Nat.le_refl _
    · have := ih (by omega)
      rw [cst]
      omega
theorem shorten {C : Nat → Nat → Int32} {src : Nat} : ∀ k f l, WK C src k f l → ∃ k' f', k' ≤ 5 ∧ WK C src k' f' l ∧ cst C f' k' ≤ cst C f k := by
  intro k
  induction k using Nat.strongRecOn with
  | ind k ih =>
    intro f l w
    by_cases hk : k ≤ 5
    · exact ⟨k, f, hk, w, Nat.le_refl _⟩
    · obtain ⟨w1, w2, w3, w4⟩ := w
      obtain ⟨i, j, h1, h2, h3⟩ := pig (f := f) fun i hi => w3 i (by omega)
      have gl : ∀ n, n ≤ i → (cutf f i (j - i)) n = f n := fun n hn => if_pos hn
      have gh : ∀ m, (cutf f i (j - i)) (i + m) = f (j + m) := by
        intro m
        by_cases hm : m = 0
        · subst hm
          show (if i + 0 ≤ i then f (i + 0) else f (i + 0 + (j - i))) = _
          rw [if_pos (by omega)]; exact h3
        · show (if i + m ≤ i then f (i + m) else f (i + m + (j - i))) = _
          rw [if_neg (by omega), show i + m + (j - i) = j + m by omega]
      have gc : ∀ m, cst C (cutf f i (j - i)) (i + m) + cst C f j = cst C f i + cst C f (j + m) := by
        intro m
        induction m with
        | zero =>
          rw [show i + 0 = i from rfl, show j + 0 = j from rfl, cst_c gl]
        | succ m ihm =>
          rw [show i + (m + 1) = (i + m) + 1 by omega, show j + (m + 1) = (j + m) + 1 by omega, cst, cst, gh m, show i + m + 1 = i + (m + 1) by omega, gh (m + 1), show j + (m + 1) = j + m + 1 by omega]
          omega
      have hkk : k = j + (k - j) := by omega
      have wg : WK C src (i + (k - j)) (cutf f i (j - i)) l := by
        refine ⟨(gl 0 (by omega)).trans w1, by rw [gh, ← hkk]; exact w2, fun n hn => ?_, fun n hn => ?_⟩
        · by_cases hni : n ≤ i
          · rw [gl n hni]; exact w3 n (by omega)
          · obtain ⟨m, rfl⟩ : ∃ m, n = i + m := ⟨n - i, by omega⟩
            rw [gh]; exact w3 _ (by omega)
        · by_cases hni : n < i
          · rw [gl n (by omega), gl (n + 1) (by omega)]; exact w4 n (by omega)
          · obtain ⟨m, rfl⟩ : ∃ m, n = i + m := ⟨n - i, by omega⟩
            rw [gh, show i + m + 1 = i + (m + 1) by omega, gh]
            exact w4 _ (by omega)
      obtain ⟨k', f', p1, p2, p3⟩ := ih (i + (k - j)) (by omega) _ l wg
      refine ⟨k', f', p1, p2, Nat.le_trans p3 ?_⟩
      have g1 := gc (k - j)
      rw [← hkk] at g1
      have g2 := cst_m (C := C) (f := f) (i := i) (j := j) (by omega)
      omega
theorem rds_65 {C : Nat → Nat → Int32} (hC : CV C) {src : Nat} (hs : src < 6) {l : Nat} (hl : l < 6) : rds C (fr0 src) 6 l = rds C (fr0 src) 5 l := by
  obtain ⟨s2, d2, r2⟩ := rlA_ok hC (by omega) (rds_s hC hs 5 (by omega)) 6 (by omega)
  have s6 := rds_s hC hs 6 (by omega)
  have d6 : rds C (fr0 src) 6 = rlA C (rds C (fr0 src) 5) 6 := rfl
  rw [← d6] at d2
  rcases s6 l hl with e | ⟨k, f, w, e, b⟩
  · by_cases h5 : rds C (fr0 src) 5 l = -1
    · rw [e, h5]
    · exact absurd e (d2 l hl h5).1
  · obtain ⟨k', f', p1, p2, p3⟩ := shorten k f l w
    obtain ⟨y1, y2⟩ := rds_c hC hs 5 (by omega) k' p1 f' l p2
    obtain ⟨y3, y4⟩ := d2 l hl y1
    apply Int32.toInt_inj.mp
    have : (rds C (fr0 src) 6 l).toInt = cst C f k := by rw [e, nI_toInt (by omega)]
    omega
