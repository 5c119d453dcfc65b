/-! the constructors -/
def RTb : List (Nat × Nat × Nat) → Nat → Nat → Option Nat
  | [], _, _ => none
  | e :: L, x, j => if x = e.1 ∧ j = e.2.1 then some e.2.2 else RTb L x j
theorem RTb_n {L : List (Nat × Nat × Nat)} {x j : Nat} (h : ∀ e ∈ L, ¬ (e.1 = x ∧ e.2.1 = j)) : RTb L x j = none := by
  induction L with
  | nil => rfl
  | cons e L ih =>
    rw [RTb, if_neg (fun z => h e (by simp) ⟨z.1.symm, z.2.symm⟩)]
    exact ih fun e he => h e (by simp [he])
/-- n cells made, their references are L's, numbers of the others are 0 -/
def HS (n : Nat) (L : List (Nat × Nat × Nat)) (h : Hp) : Prop := h.1 = n ∧ h.2.2 = RTb L ∧ (∀ e ∈ L, e.1 < n) ∧ ∀ x k, n ≤ x → h.2.1 x k = 0
theorem HS.mk {n : Nat} {L : List (Nat × Nat × Nat)} {h : Hp} (q : HS n L h) : HS (n + 1) L (mkc h) ∧ (mkc h).2.1 = h.2.1 := by
  obtain ⟨q1, q2, q3, q4⟩ := q
  have e : (mkc h).2.1 = h.2.1 := by
    funext x k
    show (if x = h.1 then 0 else h.2.1 x k) = _
    by_cases z : x = h.1
    · rw [if_pos z, q4 x k (by omega)]
    · rw [if_neg z]
  refine ⟨⟨by show h.1 + 1 = _; omega, ?_, fun e he => by have := q3 e he; omega, fun x k hx => by rw [e]; exact q4 x k (by omega)⟩, e⟩
  funext x k
  show (if x = h.1 then none else h.2.2 x k) = _
  by_cases z : x = h.1
  · rw [if_pos z, RTb_n fun e he y => by have := q3 e he; omega]
  · rw [if_neg z, q2]
theorem HS.w {n : Nat} {L : List (Nat × Nat × Nat)} {h : Hp} (q : HS n L h) {a k v : Nat} (ha : a < n) : HS n ((a, k, v) :: L) (wR h a k (some v)) := by
  obtain ⟨q1, q2, q3, q4⟩ := q
  refine ⟨q1, ?_, fun e he => ?_, q4⟩
  · funext x j
    rw [wR_r, q2]
    rfl
  · rcases List.mem_cons.mp he with rfl | he
    · exact ha
    · exact q3 e he
theorem q_nwA {ci m n : Nat} {v : Int32} {L : List (Nat × Nat × Nat)} {E : En} {h : Hp} {P : Nat → Hp → Prop} (q : HS n L h) (hn : n < 1000) (hL : LY n = (ci, m)) (hv : v.toInt = m) (hP : HS (n + 1) L (mkc h) → (mkc h).2.1 = h.2.1 → P n (mkc h)) : ev (nwA ci (icst v)) E h P := by
  obtain ⟨q1, q2⟩ := q.mk
  have e := q.1
  refine ⟨n, mkc h, ?_, hP q1 q2⟩
  show (if h.1 < 1000 ∧ (LY h.1).1 = ci ∧ v.toInt = (LY h.1).2 then some (h.1, mkc h) else none) = _
  rw [e, hL, if_pos ⟨hn, rfl, hv⟩]
theorem q_nwO {ci n : Nat} {F : FN} {a : DA} {vs : List Value} {L : List (Nat × Nat × Nat)} {E : En} {h : Hp} {P : Nat → Hp → Prop} (q : HS n L h) (hn : n < 1000) (hL : (LY n).1 = ci) (ha : ∀ h1, HS (n + 1) L h1 → ev a E h1 fun x h2 => x = vs ∧ h2 = h1) (hF : ∀ h1, HS (n + 1) L h1 → h1.2.1 = h.2.1 → fq F (.ref n :: vs) h1 fun r h2 => r = none ∧ P n h2) : ev (nwO ci F a) E h P := by
  obtain ⟨q1, q2⟩ := q.mk
  have e := q.1
  obtain ⟨x, h2, e1, rfl, rfl⟩ := ha _ q1
  obtain ⟨r, h3, e2, rfl, p⟩ := hF _ q1 q2
  refine ⟨n, h3, ?_, p⟩
  unfold nwO
  rw [e, if_pos ⟨hn, hL⟩, e1]
  show (match F (.ref n :: x) (mkc h) with | some (none, h2) => some (n, h2) | _ => none) = _
  rw [e2]
/-- this.k = new array -/
theorem w_pA {c k ci a m n : Nat} {v : Int32} {b : Sm} {L : List (Nat × Nat × Nat)} {E : En} {h : Hp} {Q : Nat → Value → En → Hp → Prop} (q : HS n L h) (h0 : E[0]? = some (.ref a)) (ha : a < n) (hc : (LY a).1 = c) (hn : n < 1000) (hL : LY n = (ci, m)) (hv : v.toInt = m) (hb : ∀ h', HS (n + 1) ((a, k, n) :: L) h' → h'.2.1 = h.2.1 → wp b E h' Q) : wp (sq (pR c k (ldR 0) (nwA ci (icst v))) b) E h Q := by
  rw [w_sq, w_pR, q_ldR]
  refine ⟨a, h0, q_nwA q hn hL hv fun q1 q2 => ⟨⟨by have := q1.1; omega, hc⟩, fun _ => hb _ (q1.w (by omega)) q2, fun z => absurd rfl z⟩⟩
/-- this.k = new object -/
theorem w_pO {c k ci a n n2 : Nat} {F : FN} {d : DA} {vs : List Value} {b : Sm} {L L2 : List (Nat × Nat × Nat)} {E : En} {h : Hp} {Q : Nat → Value → En → Hp → Prop} (N : (Nat → Nat → Int32) → Prop) (q : HS n L h) (h0 : E[0]? = some (.ref a)) (ha : a < n2) (hc : (LY a).1 = c) (hn : n < 1000) (hL : (LY n).1 = ci) (hd : ∀ h1, HS (n + 1) L h1 → ev d E h1 fun x h2 => x = vs ∧ h2 = h1) (hF : ∀ h1, HS (n + 1) L h1 → h1.2.1 = h.2.1 → fq F (.ref n :: vs) h1 fun r h2 => r = none ∧ HS n2 L2 h2 ∧ N h2.2.1) (hb : ∀ h', HS n2 ((a, k, n) :: L2) h' → N h'.2.1 → wp b E h' Q) : wp (sq (pR c k (ldR 0) (nwO ci F d)) b) E h Q := by
  rw [w_sq, w_pR, q_ldR]
  refine ⟨a, h0, q_nwO q hn hL hd fun h1 q1 q2 => fq_mono (hF h1 q1 q2) ?_⟩
  rintro r h2 ⟨rfl, z1, z2⟩
  exact ⟨rfl, ⟨by have := z1.1; omega, hc⟩, fun _ => hb _ (z1.w ha) z2, fun z => absurd rfl z⟩
/-- this.k = a parameter -/
theorem w_pP {c k a r v n : Nat} {b : Sm} {L : List (Nat × Nat × Nat)} {E : En} {h : Hp} {Q : Nat → Value → En → Hp → Prop} (q : HS n L h) (h0 : E[0]? = some (.ref a)) (hr : E[r]? = some (.ref v)) (ha : a < n) (hc : (LY a).1 = c) (hb : ∀ h', HS n ((a, k, v) :: L) h' → h'.2.1 = h.2.1 → wp b E h' Q) : wp (sq (pR c k (ldR 0) (ldR r)) b) E h Q := by
  rw [w_sq, w_pR, q_ldR]
  refine ⟨a, h0, ?_⟩
  rw [q_ldR]
  exact ⟨v, hr, ⟨by have := q.1; omega, hc⟩, fun _ => hb _ (q.w ha) rfl, fun z => absurd rfl z⟩
theorem w_s0 {b : Sm} {a : Nat} {E : En} {h : Hp} {Q : Nat → Value → En → Hp → Prop} (h0 : E[0]? = some (.ref a)) (hb : wp b E h Q) : wp (sq sO b) E h Q := by
  rw [w_sq, w_sO]
  exact ⟨a, h0, fun _ => hb, fun z => absurd rfl z⟩
/-- a law -/
def lawL (a : Nat) (L : List (Nat × Nat × Nat)) : List (Nat × Nat × Nat) := (a, 3, a + 4) :: (a, 2, a + 3) :: (a, 1, a + 2) :: (a, 0, a + 1) :: L
theorem n_law {a : Nat} {L : List (Nat × Nat × Nat)} {h : Hp} (q : HS (a + 1) L h) (ha : a < 900) (l0 : (LY a).1 = 3) (l1 : LY (a + 1) = (13, 160)) (l2 : LY (a + 2) = (13, 160)) (l3 : LY (a + 3) = (13, 12)) (l4 : LY (a + 4) = (13, 12)) : fq F_X3_init [.ref a] h fun r h' => r = none ∧ HS (a + 5) (lawL a L) h' ∧ h'.2.1 = h.2.1 := by
  unfold F_X3_init
  refine f_mkE [.ref a] rfl (by simp [argE, Value.category]) ?_
  refine w_s0 (a := a) rfl ?_
  refine w_pA (a := a) q rfl (by omega) l0 (by omega) l1 rfl fun h1 q1 e1 => ?_
  refine w_pA (a := a) q1 rfl (by omega) l0 (by omega) l2 rfl fun h2 q2 e2 => ?_
  refine w_pA (a := a) q2 rfl (by omega) l0 (by omega) l3 rfl fun h3 q3 e3 => ?_
  refine w_pA (a := a) q3 rfl (by omega) l0 (by omega) l4 rfl fun h4 q4 e4 => ?_
  rw [w_rV]
  exact Or.inl ⟨rfl, rfl, rfl, q4, by rw [e4, e3, e2, e1]⟩
theorem n_row {a : Nat} {L : List (Nat × Nat × Nat)} {h : Hp} (q : HS (a + 1) L h) : fq F_X5_init [.ref a] h fun r h' => r = none ∧ HS (a + 1) L h' ∧ h'.2.1 = h.2.1 := by
  unfold F_X5_init
  refine f_mkE [.ref a] rfl (by simp [argE, Value.category]) ?_
  refine w_s0 (a := a) rfl ?_
  rw [w_rV]
  exact Or.inl ⟨rfl, rfl, rfl, q, rfl⟩
theorem n_tape {L : List (Nat × Nat × Nat)} {h : Hp} (q : HS 13 L h) : fq F_X8_init [.ref 12] h fun r h' => r = none ∧ HS 14 ((12, 0, 13) :: L) h' ∧ h'.2.1 = h.2.1 := by
  unfold F_X8_init
  refine f_mkE [.ref 12] rfl (by simp [argE, Value.category]) ?_
  refine w_s0 (a := 12) rfl ?_
  refine w_pA (a := 12) q rfl (by omega) rfl (by omega) ly13 rfl fun h1 q1 e1 => ?_
  rw [w_rV]
  exact Or.inl ⟨rfl, rfl, rfl, q1, e1⟩
theorem n_reck {L : List (Nat × Nat × Nat)} {h : Hp} (q : HS 149 L h) : fq F_X6_init [.ref 148] h fun r h' => r = none ∧ HS 151 ((148, 1, 150) :: (148, 0, 149) :: L) h' ∧ h'.2.1 = h.2.1 := by
  unfold F_X6_init
  refine f_mkE [.ref 148] rfl (by simp [argE, Value.category]) ?_
  refine w_s0 (a := 148) rfl ?_
  refine w_pA (a := 148) q rfl (by omega) rfl (by omega) ly149 rfl fun h1 q1 e1 => ?_
  refine w_pA (a := 148) q1 rfl (by omega) rfl (by omega) ly150 rfl fun h2 q2 e2 => ?_
  rw [w_rV]
  exact Or.inl ⟨rfl, rfl, rfl, q2, by rw [e2, e1]⟩
