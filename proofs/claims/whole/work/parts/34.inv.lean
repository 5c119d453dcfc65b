/-! the invariant between the calls: the class's cells beside the reference's -/
def Iclk (h : Hp) : Prop := h.2.1 0 12 = h.2.1 166 0 ∧ 0 ≤ (h.2.1 166 0).toInt ∧ (h.2.1 166 0).toInt ≤ 599
def Iper (h : Hp) : Prop := h.2.1 0 13 = h.2.1 166 1 ∧ (0 ≤ (h.2.1 166 1).toInt ∧ (h.2.1 166 1).toInt ≤ 12) ∧ (∀ i, h.2.1 1 i = h.2.1 167 i) ∧ (∀ i, h.2.1 2 i = h.2.1 168 i) ∧ (∀ i, 0 ≤ (h.2.1 167 i).toInt ∧ (h.2.1 167 i).toInt ≤ 5) ∧ (∀ i, 0 ≤ (h.2.1 168 i).toInt ∧ (h.2.1 168 i).toInt ≤ 1000000)
def Isen (h : Hp) : Prop := ∀ l k, l < 6 → k < 9 → h.2.1 (6 + l) k = h.2.1 181 (9 * l + k) ∧ 0 ≤ (h.2.1 181 (9 * l + k)).toInt ∧ (h.2.1 181 (9 * l + k)).toInt ≤ 5
def Iroa (h : Hp) : Prop := ∀ a b, a < 6 → b < 6 → h.2.1 (16 + a) b = h.2.1 182 (6 * a + b) ∧ -1 ≤ (h.2.1 182 (6 * a + b)).toInt ∧ (h.2.1 182 (6 * a + b)).toInt ≤ 10000
def Itap (h : Hp) : Prop := h.2.1 12 1 = h.2.1 166 20 ∧ (0 ≤ (h.2.1 166 20).toInt ∧ (h.2.1 166 20).toInt ≤ 200) ∧ ∀ i, h.2.1 13 i = h.2.1 183 i
def Ithi (h : Hp) : Prop := h.2.1 0 14 = h.2.1 166 2 ∧ (0 ≤ (h.2.1 166 2).toInt ∧ (h.2.1 166 2).toInt ≤ 4) ∧ ∀ t, t < 4 → (h.2.1 (28 + 22 * t) 1 = h.2.1 172 t ∧ h.2.1 (28 + 22 * t) 2 = h.2.1 169 t ∧ h.2.1 (28 + 22 * t) 3 = h.2.1 170 t ∧ h.2.1 (28 + 22 * t) 4 = h.2.1 171 t) ∧ (0 ≤ (h.2.1 172 t).toInt ∧ (h.2.1 172 t).toInt ≤ 20) ∧ ((h.2.1 166 2).toInt ≤ t → (h.2.1 172 t).toInt = 0) ∧ ((t : Int) < (h.2.1 166 2).toInt → (1 ≤ (h.2.1 169 t).toInt ∧ (h.2.1 169 t).toInt ≤ 1000000) ∧ (0 ≤ (h.2.1 170 t).toInt ∧ (h.2.1 170 t).toInt < (h.2.1 166 1).toInt) ∧ (0 ≤ (h.2.1 171 t).toInt ∧ (h.2.1 171 t).toInt ≤ 5))
/-- the reference's row i of thing t: kind, to, land, month, price, signs, low, high -/
def mrow (h : Hp) (t i k : Nat) : Int32 := h.2.1 (173 + k) (22 * t + i)
def rowV (np now : Int) (r : Nat → Int32) : Prop := (0 ≤ (r 0).toInt ∧ (r 0).toInt ≤ 7) ∧ (0 ≤ (r 1).toInt ∧ (r 1).toInt < np) ∧ (0 ≤ (r 2).toInt ∧ (r 2).toInt ≤ 5) ∧ (0 ≤ (r 3).toInt ∧ (r 3).toInt ≤ now) ∧ (0 ≤ (r 4).toInt ∧ (r 4).toInt ≤ 1000000) ∧ ((r 0).toInt ≠ 0 → (r 4).toInt = 0) ∧ (0 ≤ (r 5).toInt ∧ (r 5).toInt ≤ 7) ∧ (0 ≤ (r 6).toInt ∧ (r 6).toInt ≤ (r 7).toInt ∧ (r 7).toInt ≤ 2)
theorem rowV.mono {np np' now now' : Int} {r : Nat → Int32} (h : rowV np now r) (h1 : np ≤ np') (h2 : now ≤ now') : rowV np' now' r := by
  unfold rowV at *
  omega
/-- the class's rows of thing t: where they are, and that they hold what the reference's do -/
def Irow (h : Hp) : Prop := ∀ t, t < 4 → ∃ ra : Nat → Nat, (∀ i, i < 20 → h.2.2 (29 + 22 * t) i = some (ra i) ∧ 30 + 22 * t ≤ ra i ∧ ra i < 50 + 22 * t) ∧ (∀ i j, i < 20 → j < 20 → ra i = ra j → i = j) ∧ ∀ i : Nat, i < 20 → (i : Int) < (h.2.1 172 t).toInt → (∀ k, k < 8 → h.2.1 (ra i) k = mrow h t i k) ∧ rowV (h.2.1 166 1).toInt (h.2.1 166 0).toInt (mrow h t i) ∧ ((i : Int) + 1 < (h.2.1 172 t).toInt → (mrow h t i 3).toInt ≤ (mrow h t (i + 1) 3).toInt)
/-- how many cases the court has opened, and what its table of months knows of them -/
def Icou (n : Nat) (h : Hp) : Prop := (0 ≤ (h.2.1 147 10).toInt ∧ (h.2.1 147 10).toInt ≤ 20 * n) ∧ ∀ k, (h.2.1 155 k).toInt ≤ (h.2.1 147 10).toInt
/-- the laws: where they are, how many clauses they have -/
def lawA (a : Nat) : Prop := a = 23 ∨ a = 116 ∨ a = 121 ∨ a = 126 ∨ a = 131 ∨ a = 136 ∨ a = 141
def Icla (h : Hp) : Prop := (∃ sa, h.2.2 0 11 = some sa ∧ lawA sa ∧ ∀ l, l < 6 → h.2.2 4 l ≠ some sa) ∧ (∀ l, l < 6 → ∃ la, h.2.2 4 l = some la ∧ lawA la ∧ h.2.1 la 5 = h.2.1 190 l ∧ 0 ≤ (h.2.1 190 l).toInt ∧ (h.2.1 190 l).toInt ≤ 12) ∧ ∀ l m, l < 6 → m < 6 → h.2.2 4 l = h.2.2 4 m → l = m
def Sclk (a k : Nat) : Prop := (a = 0 ∧ k = 12) ∨ (a = 166 ∧ k = 0)
def Sper (a k : Nat) : Prop := (a = 0 ∧ k = 13) ∨ (a = 166 ∧ k = 1) ∨ a = 1 ∨ a = 2 ∨ a = 167 ∨ a = 168
def Ssen (a _k : Nat) : Prop := (6 ≤ a ∧ a ≤ 11) ∨ a = 181
def Sroa (a _k : Nat) : Prop := (16 ≤ a ∧ a ≤ 21) ∨ a = 182
def Stap (a k : Nat) : Prop := (a = 12 ∧ k = 1) ∨ (a = 166 ∧ k = 20) ∨ a = 13 ∨ a = 183
def Sthi (a k : Nat) : Prop := (a = 0 ∧ k = 14) ∨ (a = 166 ∧ k = 2) ∨ (169 ≤ a ∧ a ≤ 172) ∨ ((a = 28 ∨ a = 50 ∨ a = 72 ∨ a = 94) ∧ 1 ≤ k ∧ k ≤ 4)
def Srow (a _k : Nat) : Prop := (172 ≤ a ∧ a ≤ 180) ∨ (30 ≤ a ∧ a ≤ 49) ∨ (52 ≤ a ∧ a ≤ 71) ∨ (74 ≤ a ∧ a ≤ 93) ∨ (96 ≤ a ∧ a ≤ 115)
def Slaw (a _k : Nat) : Prop := (23 ≤ a ∧ a ≤ 27) ∨ (116 ≤ a ∧ a ≤ 145) ∨ (189 ≤ a ∧ a ≤ 193)
def Scou (a k : Nat) : Prop := (a = 147 ∧ k = 10) ∨ a = 155
/-- the numbers of S are the same -/
def same (S : Nat → Nat → Prop) (h h' : Hp) : Prop := ∀ a k, S a k → h'.2.1 a k = h.2.1 a k
/-- the references that may change are the same -/
def sameR (h h' : Hp) : Prop := ∀ a k, (a = 0 ∧ k = 11) ∨ a = 4 ∨ a = 29 ∨ a = 51 ∨ a = 73 ∨ a = 95 ∨ a = 157 → h'.2.2 a k = h.2.2 a k
theorem Iclk_c {h h' : Hp} (e : same Sclk h h') (q : Iclk h) : Iclk h' := by
  unfold Iclk at *
  rw [e 0 12 (by unfold Sclk; omega), e 166 0 (by unfold Sclk; omega)]
  exact q
theorem Iper_c {h h' : Hp} (e : same Sper h h') (q : Iper h) : Iper h' := by
  unfold Iper at *
  have e1 : ∀ i, h'.2.1 1 i = h.2.1 1 i := fun i => e 1 i (by unfold Sper; omega)
  have e2 : ∀ i, h'.2.1 2 i = h.2.1 2 i := fun i => e 2 i (by unfold Sper; omega)
  have e3 : ∀ i, h'.2.1 167 i = h.2.1 167 i := fun i => e 167 i (by unfold Sper; omega)
  have e4 : ∀ i, h'.2.1 168 i = h.2.1 168 i := fun i => e 168 i (by unfold Sper; omega)
  simp only [e 0 13 (by unfold Sper; omega), e 166 1 (by unfold Sper; omega), e1, e2, e3, e4]
  exact q
theorem Isen_c {h h' : Hp} (e : same Ssen h h') (q : Isen h) : Isen h' := by
  intro l k hl hk
  rw [e (6 + l) k (by unfold Ssen; omega), e 181 _ (by unfold Ssen; omega)]
  exact q l k hl hk
theorem Iroa_c {h h' : Hp} (e : same Sroa h h') (q : Iroa h) : Iroa h' := by
  intro l k hl hk
  rw [e (16 + l) k (by unfold Sroa; omega), e 182 _ (by unfold Sroa; omega)]
  exact q l k hl hk
theorem Itap_c {h h' : Hp} (e : same Stap h h') (q : Itap h) : Itap h' := by
  unfold Itap at *
  have e1 : ∀ i, h'.2.1 13 i = h.2.1 13 i := fun i => e 13 i (by unfold Stap; omega)
  have e2 : ∀ i, h'.2.1 183 i = h.2.1 183 i := fun i => e 183 i (by unfold Stap; omega)
  simp only [e 12 1 (by unfold Stap; omega), e 166 20 (by unfold Stap; omega), e1, e2]
  exact q
theorem Ithi_c {h h' : Hp} (e : same Sthi h h') (enp : (h.2.1 166 1).toInt ≤ (h'.2.1 166 1).toInt) (q : Ithi h) : Ithi h' := by
  obtain ⟨q1, q2, q3⟩ := q
  refine ⟨by rw [e 0 14 (by unfold Sthi; omega), e 166 2 (by unfold Sthi; omega)]; exact q1, by rw [e 166 2 (by unfold Sthi; omega)]; exact q2, fun t ht => ?_⟩
  obtain ⟨c1, c2, c3, c4⟩ := q3 t ht
  simp only [e 166 2 (by unfold Sthi; omega), e 169 t (by unfold Sthi; omega), e 170 t (by unfold Sthi; omega), e 171 t (by unfold Sthi; omega), e 172 t (by unfold Sthi; omega), e (28 + 22 * t) 1 (by unfold Sthi; omega), e (28 + 22 * t) 2 (by unfold Sthi; omega), e (28 + 22 * t) 3 (by unfold Sthi; omega), e (28 + 22 * t) 4 (by unfold Sthi; omega)]
  exact ⟨c1, c2, c3, fun z => ⟨(c4 z).1, ⟨(c4 z).2.1.1, by have := (c4 z).2.1.2; omega⟩, (c4 z).2.2⟩⟩
theorem mrow_c {h h' : Hp} (e : same Srow h h') {t i k : Nat} (hk : k < 8) : mrow h' t i k = mrow h t i k := e _ _ (by unfold Srow; omega)
theorem rowV_c {np now : Int} {r r' : Nat → Int32} (e : ∀ k, k < 8 → r' k = r k) (q : rowV np now r) : rowV np now r' := by
  unfold rowV at *
  rw [e 0 (by omega), e 1 (by omega), e 2 (by omega), e 3 (by omega), e 4 (by omega), e 5 (by omega), e 6 (by omega), e 7 (by omega)]
  exact q
theorem Irow_c {h h' : Hp} (e : same Srow h h') (er : sameR h h') (enp : (h.2.1 166 1).toInt ≤ (h'.2.1 166 1).toInt) (eno : (h.2.1 166 0).toInt ≤ (h'.2.1 166 0).toInt) (q : Irow h) : Irow h' := by
  intro t ht
  obtain ⟨ra, q1, q2, q3⟩ := q t ht
  refine ⟨ra, fun i hi => by rw [er (29 + 22 * t) i (by omega)]; exact q1 i hi, q2, fun i h20 hi => ?_⟩
  rw [e 172 t (by unfold Srow; omega)] at hi ⊢
  obtain ⟨r1, r2, r3⟩ := q3 i h20 hi
  refine ⟨fun k hk => ?_, ?_, fun hi2 => ?_⟩
  · rw [mrow_c e hk, ← r1 k hk]
    have := q1 i h20
    exact e _ _ (by unfold Srow; omega)
  · exact (rowV_c (fun k hk => mrow_c e hk) r2).mono enp eno
  · rw [mrow_c e (by omega), mrow_c e (by omega)]
    exact r3 hi2
theorem Icla_c {h h' : Hp} (e : same Slaw h h') (er : sameR h h') (q : Icla h) : Icla h' := by
  obtain ⟨⟨sa, a1, a2, a3⟩, b, c⟩ := q
  refine ⟨⟨sa, by rw [er 0 11 (by omega)]; exact a1, a2, fun l hl => by rw [er 4 l (by omega)]; exact a3 l hl⟩, fun l hl => ?_, fun l m hl hm => by rw [er 4 l (by omega), er 4 m (by omega)]; exact c l m hl hm⟩
  obtain ⟨la, d1, d2, d3, d4⟩ := b l hl
  refine ⟨la, by rw [er 4 l (by omega)]; exact d1, d2, ?_⟩
  rw [e la 5 (by unfold lawA at d2; unfold Slaw; omega), e 190 l (by unfold Slaw; omega)]
  exact ⟨d3, d4⟩
theorem Icou_c {n : Nat} {h h' : Hp} (e : same Scou h h') (q : Icou n h) : Icou (n + 1) h' := by
  obtain ⟨⟨q1, q2⟩, q3⟩ := q
  refine ⟨?_, fun k => ?_⟩
  · rw [e 147 10 (by unfold Scou; omega)]
    omega
  · rw [e 147 10 (by unfold Scou; omega), e 155 k (by unfold Scou; omega)]
    exact q3 k
/-- the invariant; LW: what the laws' codes are -/
def INV (LW : Hp → Prop) (n : Nat) (h : Hp) : Prop := Ip h ∧ Iclk h ∧ Iper h ∧ Isen h ∧ Iroa h ∧ Itap h ∧ Ithi h ∧ Irow h ∧ Icla h ∧ LW h ∧ Icou n h
/-- LW hangs on the laws' cells alone -/
def LWok (LW : Hp → Prop) : Prop := ∀ h h', same Slaw h h' → sameR h h' → LW h → LW h'
theorem Ip_c {h h' : Hp} (e1 : h'.1 = h.1) (e2 : h'.2.2 = h.2.2) (q : Ip h) : Ip h' := by
  unfold Ip at *
  rw [e1, e2]
  exact q
theorem sameR_of {h h' : Hp} (e : h'.2.2 = h.2.2) : sameR h h' := fun a k _ => by rw [e]
theorem INV_up {LW : Hp → Prop} {n : Nat} {h : Hp} (q : INV LW n h) : INV LW (n + 1) h := by
  obtain ⟨q0, q1, q2, q3, q4, q5, q6, q7, q8, q9, q10⟩ := q
  exact ⟨q0, q1, q2, q3, q4, q5, q6, q7, q8, q9, Icou_c (fun _ _ _ => rfl) q10⟩
/-- nothing that lasts has changed -/
theorem INV_c {LW : Hp → Prop} (hW : LWok LW) {n : Nat} {h h' : Hp} (e1 : h'.1 = h.1) (e2 : h'.2.2 = h.2.2) (e : same (fun a k => Sclk a k ∨ Sper a k ∨ Ssen a k ∨ Sroa a k ∨ Stap a k ∨ Sthi a k ∨ Srow a k ∨ Slaw a k) h h') (ec : Icou (n + 1) h') (q : INV LW n h) : INV LW (n + 1) h' := by
  obtain ⟨q0, q1, q2, q3, q4, q5, q6, q7, q8, q9, q10⟩ := q
  have er := sameR_of e2
  have hn : h'.2.1 166 1 = h.2.1 166 1 := e 166 1 (by unfold Sper; simp)
  have hw : h'.2.1 166 0 = h.2.1 166 0 := e 166 0 (by unfold Sclk; simp)
  exact ⟨Ip_c e1 e2 q0, Iclk_c (fun a k s => e a k (by simp [s])) q1, Iper_c (fun a k s => e a k (by simp [s])) q2, Isen_c (fun a k s => e a k (by simp [s])) q3, Iroa_c (fun a k s => e a k (by simp [s])) q4, Itap_c (fun a k s => e a k (by simp [s])) q5, Ithi_c (fun a k s => e a k (by simp [s])) (by rw [hn]; omega) q6, Irow_c (fun a k s => e a k (by simp [s])) er (by rw [hn]; omega) (by rw [hw]; omega) q7, Icla_c (fun a k s => e a k (by simp [s])) er q8, hW _ _ (fun a k s => e a k (by simp [s])) er q9, ec⟩
