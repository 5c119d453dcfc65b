/-! the laws' codes: what both sides hold of a law, and what it says -/
/-- a law: how many clauses; letter, first place, end of each; of each place: operator, argument, target, the reference's target, how many values stand on the stack there, whether the one on top is 0 or 1 -/
abbrev LDt : Type := Nat × (Nat → Nat) × (Nat → Nat) × (Nat → Nat) × (Nat → Nat) × (Nat → Nat) × (Nat → Nat) × (Nat → Nat) × (Nat → Nat) × (Nat → Bool)
def lCn (d : LDt) : Nat := d.1
def lLt (d : LDt) : Nat → Nat := d.2.1
def lFr (d : LDt) : Nat → Nat := d.2.2.1
def lTo (d : LDt) : Nat → Nat := d.2.2.2.1
def lOp (d : LDt) : Nat → Nat := d.2.2.2.2.1
def lAr (d : LDt) : Nat → Nat := d.2.2.2.2.2.1
def lTg (d : LDt) : Nat → Nat := d.2.2.2.2.2.2.1
def lRt (d : LDt) : Nat → Nat := d.2.2.2.2.2.2.2.1
def lSh (d : LDt) : Nat → Nat := d.2.2.2.2.2.2.2.2.1
def lBo (d : LDt) : Nat → Bool := d.2.2.2.2.2.2.2.2.2
/-- the class's sign of an operator -/
def cop (o : Nat) : Int32 := [0, 1, 43, 45, 42, 47, 37, 60, 62, 61, 2, 4, 3].getD o 0
/-- the clause's letter as a sign -/
def chL (o : Nat) : Int32 := [115, 103, 119, 102, 122, 121, 98, 97].getD o 0
def bin (o : Nat) (x y : Int32) : Int32 := if o = 2 then x + y else if o = 3 then x - y else if o = 4 then x * y else if o = 5 then x / y else if o = 6 then orem x y else if o = 7 then (if x < y then 1 else 0) else if o = 8 then (if y < x then 1 else 0) else (if x = y then 1 else 0)
def LX (h : Hp) (la : Nat) (d : LDt) : Prop := h.2.1 la 5 = nI (lCn d) ∧ (∃ ln, h.2.1 la 4 = nI ln ∧ ln ≤ 160 ∧ ∀ c, c < lCn d → lTo d c + c < ln) ∧ ∀ c, c < lCn d → h.2.1 (la + 3) c = nI (lLt d c) ∧ h.2.1 (la + 4) c = nI (lFr d c + c) ∧ h.2.1 (la + 1) (lTo d c + c) = 5 ∧ ∀ k, lFr d c ≤ k → k < lTo d c → h.2.1 (la + 1) (k + c) = cop (lOp d k) ∧ (lOp d k ≤ 1 → h.2.1 (la + 2) (k + c) = nI (lAr d k)) ∧ (11 ≤ lOp d k → h.2.1 (la + 2) (k + c) = nI (lTg d k + c))
def LM (h : Hp) (l : Nat) (d : LDt) : Prop := h.2.1 190 l = nI (lCn d) ∧ ∀ c, c < lCn d → h.2.1 191 (12 * l + c) = chL (lLt d c) ∧ h.2.1 192 (12 * l + c) = nI (180 * l + lFr d c) ∧ h.2.1 193 (12 * l + c) = nI (180 * l + lTo d c) ∧ ∀ k, lFr d c ≤ k → k < lTo d c → h.2.1 189 (180 * l + k) = nI (1048576 * lOp d k + (if lOp d k ≤ 1 then lAr d k else if 11 ≤ lOp d k then lRt d k else 0))
def SOK (d : LDt) (sh : Nat → Nat) (bo : Nat → Bool) (e k : Nat) : Prop := (bo (k + 1) = true → 7 ≤ lOp d k ∧ lOp d k ≤ 10) ∧ ((((lOp d k = 0 ∧ lAr d k < 1000000) ∨ (lOp d k = 1 ∧ lAr d k < 13)) ∧ sh k < 60 ∧ sh (k + 1) = sh k + 1) ∨ ((2 ≤ lOp d k ∧ lOp d k ≤ 9) ∧ (2 ≤ sh k ∧ sh k ≤ 60) ∧ sh (k + 1) + 1 = sh k) ∨ (lOp d k = 10 ∧ bo k = true ∧ sh k = 1 ∧ sh (k + 1) = 1) ∨ ((lOp d k = 11 ∨ lOp d k = 12) ∧ bo k = true ∧ sh k = 1 ∧ sh (k + 1) = 0 ∧ k < lTg d k ∧ lTg d k ≤ e ∧ sh (lTg d k) = 1 ∧ bo (lTg d k) = true ∧ k < lRt d k ∧ lRt d k ≤ lTg d k ∧ (lRt d k = lTg d k ∨ (lOp d (lRt d k) = lOp d k ∧ lTg d (lRt d k) = lTg d k))))
def WD (d : LDt) : Prop := lCn d ≤ 12 ∧ ∀ c, c < lCn d → lLt d c < 8 ∧ lFr d c ≤ lTo d c ∧ lTo d c ≤ 160 ∧ ∃ (sh : Nat → Nat) (bo : Nat → Bool), sh (lFr d c) = 0 ∧ bo (lFr d c) = false ∧ sh (lTo d c) = 1 ∧ bo (lTo d c) = true ∧ ∀ k, lFr d c ≤ k → k < lTo d c → SOK d sh bo (lTo d c) k
/-- what a clause says, from place k on, with that stack -/
def run (d : LDt) (fc : Nat → Int32) (e : Nat) : Nat → Nat → List Int32 → Bool
  | 0, _, _ => false
  | fu + 1, k, L => if e ≤ k then decide (L.headD 0 = 1) else if lOp d k = 0 then run d fc e fu (k + 1) (nI (lAr d k) :: L) else if lOp d k = 1 then run d fc e fu (k + 1) (fc (lAr d k) :: L) else if lOp d k = 10 then run d fc e fu (k + 1) ((1 - L.headD 0) :: L.tail) else if 11 ≤ lOp d k then (if (L.headD 0 = 1 ↔ lOp d k = 12) then run d fc e fu (lTg d k) L else run d fc e fu (k + 1) L.tail) else if (lOp d k = 5 ∨ lOp d k = 6) ∧ L.headD 0 = 0 then false else run d fc e fu (k + 1) (bin (lOp d k) (L.tail.headD 0) (L.headD 0) :: L.tail.tail)
def cls (d : LDt) (fc : Nat → Int32) (c : Nat) : Bool := run d fc (lTo d c) 200 (lFr d c) []
/-- whether a clause of that letter holds, of the first n -/
def hsN (d : LDt) (lt : Nat) (fc : Nat → Int32) : Nat → Bool
  | 0 => false
  | n + 1 => hsN d lt fc n || (decide (lLt d n = lt) && cls d fc n)
def hs (d : LDt) (lt : Nat) (fc : Nat → Int32) : Bool := hsN d lt fc (lCn d)
/-- what stands on the stack, from its top -/
def SR (arr : Nat → Int32) : List Int32 → Prop
  | [] => True
  | x :: L => arr L.length = x ∧ SR arr L
theorem SR_w {arr arr' : Nat → Int32} {L : List Int32} (h : SR arr L) (e : ∀ i, i < L.length → arr' i = arr i) : SR arr' L := by
  induction L with
  | nil => trivial
  | cons x L ih => exact ⟨(e _ (by simp)).trans h.1, ih h.2 fun i hi => e i (by simp; omega)⟩
/-- nothing else has changed -/
def Fr (S : Nat → Nat → Prop) (h h' : Hp) : Prop := h'.1 = h.1 ∧ h'.2.2 = h.2.2 ∧ ∀ a k, ¬ S a k → h'.2.1 a k = h.2.1 a k
theorem Fr.refl {S : Nat → Nat → Prop} (h : Hp) : Fr S h h := ⟨rfl, rfl, fun _ _ _ => rfl⟩
theorem Fr.trans {S : Nat → Nat → Prop} {h h1 h2 : Hp} (a : Fr S h h1) (b : Fr S h1 h2) : Fr S h h2 := ⟨b.1.trans a.1, b.2.1.trans a.2.1, fun x k q => (b.2.2 x k q).trans (a.2.2 x k q)⟩
theorem Fr.w {S : Nat → Nat → Prop} {h h1 : Hp} (a : Fr S h h1) {x k : Nat} {v : Int32} (hs : S x k) : Fr S h (wI h1 x k v) := ⟨a.1, a.2.1, fun y j q => by rw [wI_i, if_neg (by rintro ⟨rfl, rfl⟩; exact q hs)]; exact a.2.2 y j q⟩
theorem Fr.sub {S S' : Nat → Nat → Prop} {h h1 : Hp} (a : Fr S h h1) (hs : ∀ x k, S x k → S' x k) : Fr S' h h1 := ⟨a.1, a.2.1, fun y j q => a.2.2 y j fun z => q (hs y j z)⟩
theorem Fr.ip {S : Nat → Nat → Prop} {h h1 : Hp} (a : Fr S h h1) (q : Ip h) : Ip h1 := Ip_c a.1 a.2.1 q
theorem o8 {o : Nat} (h1 : 2 ≤ o) (h2 : o ≤ 9) : o = 2 ∨ o = 3 ∨ o = 4 ∨ o = 5 ∨ o = 6 ∨ o = 7 ∨ o = 8 ∨ o = 9 := by omega
theorem e_x_combine {o : Nat} (h1 : 2 ≤ o) (h2 : o ≤ 9) (x y : Int32) (hy : o = 5 ∨ o = 6 → ¬ y = 0) (h : Hp) : F_X6_combine [.int (cop o), .int x, .int y] h = some (some (.int (bin o x y)), h) := by
  rw [← fq_eq]
  unfold F_X6_combine
  rw [f_mkF, w_sw]
  rcases o8 h1 h2 with rfl | rfl | rfl | rfl | rfl | rfl | rfl | rfl
  all_goals (simp only [f_mkF, w_sI, w_sR, w_sL, w_sC, w_sk, w_sbr, w_sco, w_rV, w_rI, w_rR, w_rL, w_dI, w_sO, w_sq, w_si, w_pI, w_pZ, w_pR, w_pU, w_qI, w_qB, w_qZ, w_qU, w_qR, w_kV, q_icst, q_lcst, q_xR, q_ldI, q_ldR, q_ldL, q_bn, q_un, q_dv, q_fI, q_fR, q_aI, q_aR, q_aN, q_tn, q_cmp, q_cmz, q_cnt, q_ctt, q_cand, q_cor, q_vn, q_vI, q_vR, q_vL, q_kI, q_kR, q_kL, q_ckI, envN, argE, List.flatMap_cons, List.flatMap_nil, Value.category, junk, oadd, osub, omul, oand, oor, oxor, odiv, orem, oshl, oshr, oushr, omax, omin]; simp [cop]; simp only [f_mkF, w_sI, w_sR, w_sL, w_sC, w_sk, w_sbr, w_sco, w_rV, w_rI, w_rR, w_rL, w_dI, w_sO, w_sq, w_si, w_pI, w_pZ, w_pR, w_pU, w_qI, w_qB, w_qZ, w_qU, w_qR, w_kV, q_icst, q_lcst, q_xR, q_ldI, q_ldR, q_ldL, q_bn, q_un, q_dv, q_fI, q_fR, q_aI, q_aR, q_aN, q_tn, q_cmp, q_cmz, q_cnt, q_ctt, q_cand, q_cor, q_vn, q_vI, q_vR, q_vL, q_kI, q_kR, q_kL, q_ckI, envN, argE, List.flatMap_cons, List.flatMap_nil, Value.category, junk, oadd, osub, omul, oand, oor, oxor, odiv, orem, oshl, oshr, oushr, omax, omin]; simp [rk_i, rk_b, rk_o, st1, kill, Value.category, rcv, nog, bin])
  all_goals (try (simp at hy; simp [hy]))
  all_goals (try grind)
theorem e_m_reckon {o : Nat} (h1 : 2 ≤ o) (h2 : o ≤ 9) (x y : Int32) (hy : o = 5 ∨ o = 6 → ¬ y = 0) (h : Hp) : F_X11_reckon [.int (nI o), .int x, .int y] h = some (some (.int (bin o x y)), h) := by
  rw [← fq_eq]
  unfold F_X11_reckon
  rw [f_mkF, w_sw]
  rcases o8 h1 h2 with rfl | rfl | rfl | rfl | rfl | rfl | rfl | rfl
  all_goals (simp only [f_mkF, w_sI, w_sR, w_sL, w_sC, w_sk, w_sbr, w_sco, w_rV, w_rI, w_rR, w_rL, w_dI, w_sO, w_sq, w_si, w_pI, w_pZ, w_pR, w_pU, w_qI, w_qB, w_qZ, w_qU, w_qR, w_kV, q_icst, q_lcst, q_xR, q_ldI, q_ldR, q_ldL, q_bn, q_un, q_dv, q_fI, q_fR, q_aI, q_aR, q_aN, q_tn, q_cmp, q_cmz, q_cnt, q_ctt, q_cand, q_cor, q_vn, q_vI, q_vR, q_vL, q_kI, q_kR, q_kL, q_ckI, envN, argE, List.flatMap_cons, List.flatMap_nil, Value.category, junk, oadd, osub, omul, oand, oor, oxor, odiv, orem, oshl, oshr, oushr, omax, omin]; simp [nI]; simp only [f_mkF, w_sI, w_sR, w_sL, w_sC, w_sk, w_sbr, w_sco, w_rV, w_rI, w_rR, w_rL, w_dI, w_sO, w_sq, w_si, w_pI, w_pZ, w_pR, w_pU, w_qI, w_qB, w_qZ, w_qU, w_qR, w_kV, q_icst, q_lcst, q_xR, q_ldI, q_ldR, q_ldL, q_bn, q_un, q_dv, q_fI, q_fR, q_aI, q_aR, q_aN, q_tn, q_cmp, q_cmz, q_cnt, q_ctt, q_cand, q_cor, q_vn, q_vI, q_vR, q_vL, q_kI, q_kR, q_kL, q_ckI, envN, argE, List.flatMap_cons, List.flatMap_nil, Value.category, junk, oadd, osub, omul, oand, oor, oxor, odiv, orem, oshl, oshr, oushr, omax, omin]; simp [rk_i, rk_b, rk_o, st1, kill, Value.category, rcv, nog, bin])
  all_goals (try (simp at hy; simp [hy]))
  all_goals (try grind)
/-- a law's cells -/
theorem law_p {h : Hp} (hp : Ip h) {la : Nat} (hA : lawA la) : (h.2.2 la 0 = some (la + 1) ∧ h.2.2 la 1 = some (la + 2) ∧ h.2.2 la 2 = some (la + 3) ∧ h.2.2 la 3 = some (la + 4)) ∧ ((LY la).1 = 3 ∧ LY (la + 1) = (13, 160) ∧ LY (la + 2) = (13, 160) ∧ LY (la + 3) = (13, 12) ∧ LY (la + 4) = (13, 12)) ∧ la + 4 < 146 := by
  have hm := hp.2.1
  rcases hA with rfl | rfl | rfl | rfl | rfl | rfl | rfl
  · exact ⟨⟨hm.at 30 rfl, hm.at 31 rfl, hm.at 32 rfl, hm.at 33 rfl⟩, ⟨rfl, rfl, rfl, rfl, rfl⟩, by omega⟩
  · exact ⟨⟨hm.at 38 rfl, hm.at 39 rfl, hm.at 40 rfl, hm.at 41 rfl⟩, ⟨rfl, rfl, rfl, rfl, rfl⟩, by omega⟩
  · exact ⟨⟨hm.at 42 rfl, hm.at 43 rfl, hm.at 44 rfl, hm.at 45 rfl⟩, ⟨rfl, rfl, rfl, rfl, rfl⟩, by omega⟩
  · exact ⟨⟨hm.at 46 rfl, hm.at 47 rfl, hm.at 48 rfl, hm.at 49 rfl⟩, ⟨rfl, rfl, rfl, rfl, rfl⟩, by omega⟩
  · exact ⟨⟨hm.at 50 rfl, hm.at 51 rfl, hm.at 52 rfl, hm.at 53 rfl⟩, ⟨rfl, rfl, rfl, rfl, rfl⟩, by omega⟩
  · exact ⟨⟨hm.at 54 rfl, hm.at 55 rfl, hm.at 56 rfl, hm.at 57 rfl⟩, ⟨rfl, rfl, rfl, rfl, rfl⟩, by omega⟩
  · exact ⟨⟨hm.at 58 rfl, hm.at 59 rfl, hm.at 60 rfl, hm.at 61 rfl⟩, ⟨rfl, rfl, rfl, rfl, rfl⟩, by omega⟩
