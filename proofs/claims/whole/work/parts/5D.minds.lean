/-! minds: without cells -/
/-- bit s of an int -/
def bI (x : Int32) (s : Nat) : Bool := x.toBitVec.getLsbD s
theorem bI_shl : ∀ s, s < 32 → ∀ s', s' < 32 → bI (oshl 1 (nI s)) s' = decide (s' = s) := by decide +kernel
theorem bI_or {x : Int32} {s s' : Nat} (hs : s < 32) (hs' : s' < 32) : bI (oor x (oshl 1 (nI s))) s' = (bI x s' || decide (s' = s)) := by
  rw [← bI_shl s hs s' hs']
  unfold bI
  simp only [oor, Int32.toBitVec_or, BitVec.getLsbD_or]
theorem bI_0 (s : Nat) : bI 0 s = false := by
  unfold bI
  simp
theorem bI_ext {x y : Int32} (h : ∀ s, s < 32 → bI x s = bI y s) : x = y := by
  apply Int32.toBitVec_inj.mp
  apply BitVec.eq_of_getLsbD_eq
  intro k hk
  exact h k hk
theorem sh32_k : ∀ s, s < 32 → ((nI s).toUInt32 % 32).toNat = s := by decide +kernel
/-- minds of the first k passings are told ones -/
def VM (w : Wd) (md : Nat → Int32) (k : Nat) : Prop := ∀ i, i < k → (W_R w i 6).toInt ≤ (md i).toInt ∧ (md i).toInt ≤ (W_R w i 7).toInt
theorem stt_c {w : Wd} {sp : Nat} {md md' : Nat → Int32} : ∀ {k : Nat}, (∀ i, i < k → md i = md' i) → stt w sp md k = stt w sp md' k := by
  intro k
  induction k with
  | zero => intro _; rfl
  | succ k ih =>
    intro h
    unfold stt
    rw [ih fun i hi => h i (by omega), h k (by omega)]
def Rch (w : Wd) (i s : Nat) : Prop := ∃ md, VM w md i ∧ stt w 0 md i = s
theorem Rch_0 {w : Wd} {s : Nat} : Rch w 0 s ↔ s = 0 := by
  constructor
  · rintro ⟨md, -, h⟩; exact h.symm
  · rintro rfl; exact ⟨fun _ => 0, fun i hi => by omega, rfl⟩
theorem Rch_le {w : Wd} {i s : Nat} (h : Rch w i s) : s ≤ i := by
  obtain ⟨md, -, rfl⟩ := h
  exact (stt_nb w 0 md i).1
def setm (md : Nat → Int32) (i : Nat) (v : Int32) (j : Nat) : Int32 := if j = i then v else md j
theorem setm_e {md : Nat → Int32} {i : Nat} {v : Int32} : setm md i v i = v := if_pos rfl
theorem setm_n {md : Nat → Int32} {i j : Nat} {v : Int32} (h : j ≠ i) : setm md i v j = md j := if_neg h
theorem Rch_s {w : Wd} {i s' : Nat} : Rch w (i + 1) s' ↔ ∃ s m, Rch w i s ∧ ((W_R w i 6).toInt ≤ m.toInt ∧ m.toInt ≤ (W_R w i 7).toInt) ∧ nxt w 0 i s m = s' := by
  constructor
  · rintro ⟨md, h1, h2⟩
    exact ⟨stt w 0 md i, md i, ⟨md, fun j hj => h1 j (by omega), rfl⟩, h1 i (by omega), h2⟩
  · rintro ⟨s, m, ⟨md, h1, rfl⟩, h2, h3⟩
    refine ⟨setm md i m, fun j hj => ?_, ?_⟩
    · by_cases e : j = i
      · subst e; rw [setm_e]; exact h2
      · rw [setm_n e]; exact h1 j (by omega)
    · show nxt w 0 i (stt w 0 (setm md i m) i) (setm md i m i) = s'
      rw [setm_e, stt_c (md' := md) fun j hj => setm_n (by omega)]
      exact h3
/-- two runs of minds that differ at passing i alone -/
def Pq (w : Wd) (i k a b : Nat) : Prop := ∃ md md', VM w md k ∧ VM w md' k ∧ (∀ j, j < k → j ≠ i → md j = md' j) ∧ stt w 0 md k = a ∧ stt w 0 md' k = b
theorem Pq_sy {w : Wd} {i k a b : Nat} (h : Pq w i k a b) : Pq w i k b a := by
  obtain ⟨md, md', h1, h2, h3, h4, h5⟩ := h
  exact ⟨md', md, h2, h1, fun j hj z => (h3 j hj z).symm, h5, h4⟩
theorem Pq_le {w : Wd} {i k a b : Nat} (h : Pq w i k a b) : a ≤ k ∧ b ≤ k := by
  obtain ⟨md, md', -, -, -, rfl, rfl⟩ := h
  exact ⟨(stt_nb w 0 md k).1, (stt_nb w 0 md' k).1⟩
theorem Pq_r {w : Wd} {i k a b : Nat} (h : Pq w i k a b) : Rch w k a ∧ Rch w k b := by
  obtain ⟨md, md', h1, h2, -, h4, h5⟩ := h
  exact ⟨⟨md, h1, h4⟩, ⟨md', h2, h5⟩⟩
theorem Pq_i {w : Wd} {i a b : Nat} : Pq w i (i + 1) a b ↔ ∃ s m m', Rch w i s ∧ ((W_R w i 6).toInt ≤ m.toInt ∧ m.toInt ≤ (W_R w i 7).toInt) ∧ ((W_R w i 6).toInt ≤ m'.toInt ∧ m'.toInt ≤ (W_R w i 7).toInt) ∧ nxt w 0 i s m = a ∧ nxt w 0 i s m' = b := by
  constructor
  · rintro ⟨md, md', h1, h2, h3, h4, h5⟩
    refine ⟨stt w 0 md i, md i, md' i, ⟨md, fun j hj => h1 j (by omega), rfl⟩, h1 i (by omega), h2 i (by omega), h4, ?_⟩
    rw [stt_c (md' := md') fun j hj => h3 j (by omega) (by omega)]
    exact h5
  · rintro ⟨s, m, m', ⟨md, h1, rfl⟩, h2, h3, h4, h5⟩
    refine ⟨setm md i m, setm md i m', fun j hj => ?_, fun j hj => ?_, fun j hj z => by rw [setm_n z, setm_n z], ?_, ?_⟩
    · by_cases e : j = i
      · subst e; rw [setm_e]; exact h2
      · rw [setm_n e]; exact h1 j (by omega)
    · by_cases e : j = i
      · subst e; rw [setm_e]; exact h3
      · rw [setm_n e]; exact h1 j (by omega)
    · show nxt w 0 i (stt w 0 (setm md i m) i) (setm md i m i) = a
      rw [setm_e, stt_c (md' := md) fun j hj => setm_n (by omega)]
      exact h4
    · show nxt w 0 i (stt w 0 (setm md i m') i) (setm md i m' i) = b
      rw [setm_e, stt_c (md' := md) fun j hj => setm_n (by omega)]
      exact h5
theorem Pq_s {w : Wd} {i k a' b' : Nat} (hk : i < k) : Pq w i (k + 1) a' b' ↔ ∃ a b m, Pq w i k a b ∧ ((W_R w k 6).toInt ≤ m.toInt ∧ m.toInt ≤ (W_R w k 7).toInt) ∧ nxt w 0 k a m = a' ∧ nxt w 0 k b m = b' := by
  constructor
  · rintro ⟨md, md', h1, h2, h3, h4, h5⟩
    refine ⟨stt w 0 md k, stt w 0 md' k, md k, ⟨md, md', fun j hj => h1 j (by omega), fun j hj => h2 j (by omega), fun j hj z => h3 j (by omega) z, rfl, rfl⟩, h1 k (by omega), h4, ?_⟩
    rw [h3 k (by omega) (by omega)]
    exact h5
  · rintro ⟨a, b, m, ⟨md, md', h1, h2, h3, rfl, rfl⟩, h4, h5, h6⟩
    refine ⟨setm md k m, setm md' k m, fun j hj => ?_, fun j hj => ?_, fun j hj z => ?_, ?_, ?_⟩
    · by_cases e : j = k
      · subst e; rw [setm_e]; exact h4
      · rw [setm_n e]; exact h1 j (by omega)
    · by_cases e : j = k
      · subst e; rw [setm_e]; exact h4
      · rw [setm_n e]; exact h2 j (by omega)
    · by_cases e : j = k
      · subst e; rw [setm_e, setm_e]
      · rw [setm_n e, setm_n e]; exact h3 j (by omega) z
    · show nxt w 0 k (stt w 0 (setm md k m) k) (setm md k m k) = a'
      rw [setm_e, stt_c (md' := md) fun j hj => setm_n (by omega)]
      exact h5
    · show nxt w 0 k (stt w 0 (setm md' k m) k) (setm md' k m k) = b'
      rw [setm_e, stt_c (md' := md') fun j hj => setm_n (by omega)]
      exact h6
/-- two states of one time have two owners -/
theorem own_inj {w : Wd} {s s' k : Nat} (h1 : NB w s k) (h2 : NB w s' k) (e : own w s k = own w s' k) : s = s' := by
  have key : ∀ s s', NB w s k → NB w s' k → own w s k = own w s' k → s < s' → False := by
    intro s s' h1 h2 e hlt
    by_cases z : s = 0
    · subst z
      exact h2.ne (by omega) e
    · have n1 := h1.1
      have n2 := h2.1
      rw [own_l, own_l, lft_s z, lft_s (by omega)] at e
      obtain ⟨j, hj⟩ : ∃ j, s' - 1 = j + 1 := ⟨s' - 2, by omega⟩
      rw [hj, frm_s] at e
      exact h1.2 z j (by omega) (by omega) e.symm
  rcases Nat.lt_trichotomy s s' with h | h | h
  · exact (key s s' h1 h2 e h).elim
  · exact h
  · exact (key s' s h2 h1 e.symm h).elim
/-- it hangs on passing i -/
def HG (w : Wd) (i : Nat) : Prop := ∃ a b, a ≠ b ∧ Pq w i (W_n w) a b
theorem HG_low {w : Wd} {i : Nat} : HG w i ↔ ∃ md, VM w md (W_n w) ∧ stt w 0 md (W_n w) ≠ stt w 0 (setm md i (W_R w i 6)) (W_n w) := by
  constructor
  · rintro ⟨a, b, hab, md, md', h1, h2, h3, rfl, rfl⟩
    have e : stt w 0 (setm md i (W_R w i 6)) (W_n w) = stt w 0 (setm md' i (W_R w i 6)) (W_n w) := stt_c fun j hj => by
      by_cases z : j = i
      · subst z; rw [setm_e, setm_e]
      · rw [setm_n z, setm_n z]; exact h3 j hj z
    by_cases c : stt w 0 md (W_n w) = stt w 0 (setm md i (W_R w i 6)) (W_n w)
    · refine ⟨md', h2, fun z => hab ?_⟩
      rw [c, e, ← z]
    · exact ⟨md, h1, c⟩
  · rintro ⟨md, h1, h2⟩
    refine ⟨_, _, h2, md, setm md i (W_R w i 6), h1, fun j hj => ?_, fun j hj z => (setm_n z).symm, rfl, rfl⟩
    by_cases z : j = i
    · subst z; rw [setm_e]
      have := h1 j hj
      omega
    · rw [setm_n z]; exact h1 j hj
/-! minds as numbers -/
def unq (w : Wd) (i : Nat) : Bool := decide (W_R w i 6 < W_R w i 7)
theorem uns_s (w : Wd) (i : Nat) : uns (W_R w) (i + 1) = uns (W_R w) i + if unq w i = true then 1 else 0 := by
  unfold unq
  rw [uns]
  simp
theorem uns_mo (w : Wd) {i j : Nat} (h : i ≤ j) : uns (W_R w) i ≤ uns (W_R w) j := by
  induction j with
  | zero => rw [show i = 0 by omega]; exact Nat.le_refl _
  | succ j ih =>
    by_cases e : i = j + 1
    · rw [e]; exact Nat.le_refl _
    · have := ih (by omega)
      rw [uns_s]
      omega
theorem uns_lt (w : Wd) {i j : Nat} (hu : unq w i = true) (h : i < j) : uns (W_R w) i < uns (W_R w) j := by
  have := uns_mo w (i := i + 1) (j := j) (by omega)
  rw [uns_s, if_pos hu] at this
  omega
theorem uns_ex (w : Wd) : ∀ {n u : Nat}, u < uns (W_R w) n → ∃ i, i < n ∧ unq w i = true ∧ uns (W_R w) i = u := by
  intro n
  induction n with
  | zero => intro u h; simp [uns] at h
  | succ n ih =>
    intro u h
    rw [uns_s] at h
    by_cases c : unq w n = true
    · rw [if_pos c] at h
      by_cases e : u = uns (W_R w) n
      · exact ⟨n, by omega, c, e.symm⟩
      · obtain ⟨i, i1, i2, i3⟩ := ih (u := u) (by omega)
        exact ⟨i, by omega, i2, i3⟩
    · rw [if_neg c] at h
      obtain ⟨i, i1, i2, i3⟩ := ih (u := u) (by omega)
      exact ⟨i, by omega, i2, i3⟩
theorem uns_inj (w : Wd) {i j : Nat} (hi : unq w i = true) (hj : unq w j = true) (e : uns (W_R w) i = uns (W_R w) j) : i = j := by
  rcases Nat.lt_trichotomy i j with h | h | h
  · have := uns_lt w hi h; omega
  · exact h
  · have := uns_lt w hj h; omega
/-- the mind of passing i by a code -/
def mdc (w : Wd) (c i : Nat) : Int32 := if unq w i = true then W_R w i 6 + nI (c / 3 ^ uns (W_R w) i % 3) else W_R w i 6
def enc (w : Wd) (md : Nat → Int32) : Nat → Nat
  | 0 => 0
  | i + 1 => if unq w i = true then enc w md i + (md i - W_R w i 6).toNatClampNeg * 3 ^ uns (W_R w) i else enc w md i
theorem WV.mi {w : Wd} (hw : WV w) {i : Nat} (hi : i < W_n w) : ∃ l k, W_R w i 6 = nI l ∧ W_R w i 7 = nI k ∧ l ≤ k ∧ k ≤ 2 ∧ (unq w i = true ↔ l < k) := by
  have v := (hw.2.2.1 i hi).2.2.2.2.2.2.2
  obtain ⟨l, z1, z2, -⟩ := ofN (x := W_R w i 6) (b := 2) v.1 (by omega)
  obtain ⟨k, y1, y2, -⟩ := ofN (x := W_R w i 7) (a := 0) (b := 2) (by omega) v.2.2
  refine ⟨l, k, z1, y1, by omega, by omega, ?_⟩
  unfold unq
  rw [z1, y1, decide_eq_true_iff, nI_ltI (by omega) (by omega)]
theorem vm_d {w : Wd} (hw : WV w) {i : Nat} (hi : i < W_n w) {m : Int32} (h : (W_R w i 6).toInt ≤ m.toInt ∧ m.toInt ≤ (W_R w i 7).toInt) : ∃ d, m = W_R w i 6 + nI d ∧ d < 3 ∧ (m - W_R w i 6).toNatClampNeg = d := by
  obtain ⟨l, k, e1, e2, e3, e4, -⟩ := hw.mi hi
  rw [e1, e2, nI_toInt (by omega), nI_toInt (by omega)] at h
  obtain ⟨x, x1, x2, -⟩ := ofN (x := m) (a := 0) (b := 2) (by omega) (by omega)
  refine ⟨x - l, ?_, by omega, ?_⟩
  · rw [e1, x1, nI_add, show l + (x - l) = x by omega]
  · rw [e1, x1, nI_subc (by omega), nI_clamp (by omega)]
theorem enc_ok {w : Wd} (hw : WV w) {md : Nat → Int32} (hv : VM w md (W_n w)) : ∀ n, n ≤ W_n w → enc w md n < 3 ^ uns (W_R w) n ∧ ∀ j, j < n → unq w j = true → enc w md n / 3 ^ uns (W_R w) j % 3 = (md j - W_R w j 6).toNatClampNeg := by
  intro n
  induction n with
  | zero => intro _; exact ⟨by simp [enc, uns], fun j hj => by omega⟩
  | succ n ih =>
    intro hn
    obtain ⟨i1, i2⟩ := ih (by omega)
    rw [enc, uns_s]
    by_cases c : unq w n = true
    · rw [if_pos c, if_pos c]
      obtain ⟨d, d1, d2, d3⟩ := vm_d hw (i := n) (by omega) (hv n (by omega))
      rw [d3]
      refine ⟨?_, fun j hj hu => ?_⟩
      · rw [Nat.pow_succ]
        have : d * 3 ^ uns (W_R w) n ≤ 2 * 3 ^ uns (W_R w) n := Nat.mul_le_mul_right _ (by omega)
        omega
      · by_cases e : j = n
        · subst e
          rw [Nat.add_mul_div_right _ _ (Nat.pow_pos (by omega)), Nat.div_eq_of_lt i1, d3]
          omega
        · have hlt := uns_lt w hu (show j < n by omega)
          rw [← i2 j (by omega) hu]
          have hp : 3 ^ uns (W_R w) n = 3 ^ (uns (W_R w) n - uns (W_R w) j - 1) * 3 * 3 ^ uns (W_R w) j := by
            rw [← Nat.pow_succ, ← Nat.pow_add]
            congr 1
            omega
          rw [hp, ← Nat.mul_assoc, Nat.add_mul_div_right _ _ (Nat.pow_pos (by omega)), ← Nat.mul_assoc, Nat.add_mul_mod_self_right]
    · rw [if_neg c, if_neg c]
      refine ⟨i1, fun j hj hu => ?_⟩
      by_cases e : j = n
      · subst e; exact absurd hu c
      · exact i2 j (by omega) hu
theorem mdc_enc {w : Wd} (hw : WV w) {md : Nat → Int32} (hv : VM w md (W_n w)) {i : Nat} (hi : i < W_n w) : mdc w (enc w md (W_n w)) i = md i := by
  unfold mdc
  by_cases c : unq w i = true
  · rw [if_pos c, (enc_ok hw hv _ (Nat.le_refl _)).2 i hi c]
    obtain ⟨d, d1, d2, d3⟩ := vm_d hw hi (hv i hi)
    rw [d3]
    exact d1.symm
  · rw [if_neg c]
    obtain ⟨l, k, e1, e2, e3, e4, e5⟩ := hw.mi hi
    have h := hv i hi
    have : ¬ l < k := fun z => c (e5.mpr z)
    rw [e1, e2, nI_toInt (by omega), nI_toInt (by omega)] at h
    apply Int32.toInt_inj.mp
    rw [e1, nI_toInt (by omega)]
    omega
/-- whether a code's minds are told ones -/
def cok (w : Wd) (c : Nat) : Prop := VM w (mdc w c) (W_n w)
theorem mdc_lo {w : Wd} (hw : WV w) {c i : Nat} (hi : i < W_n w) : (W_R w i 6).toInt ≤ (mdc w c i).toInt := by
  obtain ⟨l, k, e1, e2, e3, e4, -⟩ := hw.mi hi
  unfold mdc
  by_cases z : unq w i = true
  · rw [if_pos z, e1, nI_add, nI_toInt (by omega), nI_toInt (by omega)]
    omega
  · rw [if_neg z]
    exact Int.le_refl _
/-- the code with a mind that is the least one -/
def lowc (w : Wd) (c i : Nat) : Nat := c - c / 3 ^ uns (W_R w) i % 3 * 3 ^ uns (W_R w) i
