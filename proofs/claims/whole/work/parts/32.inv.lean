/-! the invariant: pointers -/
theorem wI_1 {h : Hp} {a k : Nat} {v : Int32} : (wI h a k v).1 = h.1 := rfl
theorem wI_r {h : Hp} {a k : Nat} {v : Int32} : (wI h a k v).2.2 = h.2.2 := rfl
theorem wI_i {h : Hp} {a k x j : Nat} {v : Int32} : (wI h a k v).2.1 x j = if x = a ∧ j = k then v else h.2.1 x j := rfl
theorem wR_1 {h : Hp} {a k : Nat} {v : Option Nat} : (wR h a k v).1 = h.1 := rfl
theorem wR_i {h : Hp} {a k : Nat} {v : Option Nat} : (wR h a k v).2.1 = h.2.1 := rfl
theorem wR_r {h : Hp} {a k x j : Nat} {v : Option Nat} : (wR h a k v).2.2 x j = if x = a ∧ j = k then v else h.2.2 x j := rfl
theorem wI_o {h : Hp} {a k x : Nat} {v : Int32} (hx : x ≠ a) : (wI h a k v).2.1 x = h.2.1 x := funext fun j => by simp [wI_i, hx]
/-- the references that the reference holds, by field -/
def mp (k : Nat) : Option Nat := match k with
  | 3 => some 167
  | 4 => some 168
  | 5 => some 169
  | 6 => some 170
  | 7 => some 171
  | 8 => some 172
  | 9 => some 173
  | 10 => some 174
  | 11 => some 175
  | 12 => some 176
  | 13 => some 177
  | 14 => some 178
  | 15 => some 179
  | 16 => some 180
  | 17 => some 181
  | 18 => some 182
  | 19 => some 183
  | 29 => some 184
  | 30 => some 185
  | 31 => some 186
  | 32 => some 187
  | 33 => some 188
  | 34 => some 189
  | 35 => some 190
  | 36 => some 191
  | 37 => some 192
  | 38 => some 193
  | 39 => some 194
  | 40 => some 195
  | 42 => some 196
  | 43 => some 197
  | 44 => some 198
  | 45 => some 199
  | 46 => some 200
  | 47 => some 201
  | 48 => some 202
  | 49 => some 203
  | 53 => some 204
  | 54 => some 205
  | 55 => some 206
  | 57 => some 207
  | 58 => some 208
  | 59 => some 209
  | 60 => some 210
  | 61 => some 211
  | _ => none
/-- the references of the class that never change: cell, slot, what it holds -/
def spl : List (Nat × Nat × Nat) := [(0, 0, 1), (0, 1, 2), (0, 2, 3), (0, 3, 4), (0, 4, 5), (0, 5, 12), (0, 6, 146), (0, 7, 14), (0, 8, 147), (0, 9, 157), (0, 10, 162), (3, 0, 28), (3, 1, 50), (3, 2, 72), (3, 3, 94), (5, 0, 6), (5, 1, 7), (5, 2, 8), (5, 3, 9), (5, 4, 10), (5, 5, 11), (12, 0, 13), (14, 0, 15), (14, 1, 22), (15, 0, 16), (15, 1, 17), (15, 2, 18), (15, 3, 19), (15, 4, 20), (15, 5, 21), (23, 0, 24), (23, 1, 25), (23, 2, 26), (23, 3, 27), (28, 0, 29), (50, 0, 51), (72, 0, 73), (94, 0, 95), (116, 0, 117), (116, 1, 118), (116, 2, 119), (116, 3, 120), (121, 0, 122), (121, 1, 123), (121, 2, 124), (121, 3, 125), (126, 0, 127), (126, 1, 128), (126, 2, 129), (126, 3, 130), (131, 0, 132), (131, 1, 133), (131, 2, 134), (131, 3, 135), (136, 0, 137), (136, 1, 138), (136, 2, 139), (136, 3, 140), (141, 0, 142), (141, 1, 143), (141, 2, 144), (141, 3, 145), (146, 0, 13), (147, 0, 1), (147, 1, 4), (147, 2, 5), (147, 3, 148), (147, 4, 151), (147, 5, 152), (147, 6, 153), (147, 7, 154), (147, 8, 155), (147, 9, 156), (148, 0, 149), (148, 1, 150), (157, 0, 147), (157, 1, 158), (157, 2, 159), (162, 0, 147), (162, 1, 163), (162, 2, 164), (162, 3, 165)]
def PT (R : Nat → Nat → Option Nat) : Prop := ∀ q ∈ spl, R q.1 q.2.1 = some q.2.2
def PM (R : Nat → Nat → Option Nat) : Prop := ∀ k, R 166 k = mp k
theorem PT.at {R : Nat → Nat → Option Nat} (h : PT R) (i : Nat) {a k v : Nat} (e : spl[i]? = some (a, k, v)) : R a k = some v := h (a, k, v) (List.mem_of_getElem? e)
/-- where every cell is, and what never changes -/
def Ip (h : Hp) : Prop := h.1 = 212 ∧ PT h.2.2 ∧ PM h.2.2
theorem i32_0 : (0 : Int32).toInt = 0 := rfl
/-- an index, by its bounds -/
theorem ix_of {x : Int32} {n : Nat} (h0 : 0 ≤ x.toInt) (h1 : x.toInt < n) : inI x n = true := by simp [inI, h0, h1]
theorem clampI {x : Int32} (h0 : 0 ≤ x.toInt) : (x.toNatClampNeg : Int) = x.toInt := by rw [← Int32.toNat_toInt]; omega
theorem e_m_person (a b : Int32) (h : Hp) (hp : Ip h) (h1 : 0 ≤ (h.2.1 166 1).toInt) (h2 : (h.2.1 166 1).toInt ≤ 12) : F_X11_person [.ref 166, .int a, .int b] h = if (0 ≤ a ∧ a ≤ 5) ∧ (0 ≤ b ∧ b ≤ 1000000) ∧ h.2.1 166 1 ≠ 12 then some (some (.int (h.2.1 166 1)), wI (wI (wI h 167 (h.2.1 166 1).toNatClampNeg a) 168 (h.2.1 166 1).toNatClampNeg b) 166 1 (h.2.1 166 1 + 1)) else some (some (.int (-1)), h) := by
  obtain ⟨hn, -, hm⟩ := hp
  have h3 : h.2.1 166 1 ≠ 12 → (h.2.1 166 1).toInt < 12 := fun q => by
    have : (h.2.1 166 1).toInt ≠ 12 := fun z => q (Int32.toInt_inj.mp z)
    omega
  apply eq_of_fq
  unfold F_X11_person
  simp only [f_mkF, w_sI, w_sR, w_sL, w_sC, w_sk, w_sbr, w_sco, w_rV, w_rI, w_rR, w_rL, w_dI, w_sO, w_sq, w_si, w_pI, w_pZ, w_pR, w_pU, w_qI, w_qB, w_qZ, w_qU, w_qR, w_kV, q_icst, q_lcst, q_xR, q_ldI, q_ldR, q_ldL, q_bn, q_un, q_dv, q_fI, q_fR, q_aI, q_aR, q_aN, q_tn, q_cmp, q_cmz, q_cnt, q_ctt, q_cand, q_cor, q_vn, q_vI, q_vR, q_vL, q_kI, q_kR, q_kL, q_ckI, envN, argE, List.flatMap_cons, List.flatMap_nil, Value.category, junk, oadd, osub, omul, oand, oor, oxor, odiv, orem, oshl, oshr, oushr, omax, omin]
  simp [rok, fq_of (e_m_in _ _ _ _), fq_of (e_m_isLand _ _), nog, hn, ly166, ly167, ly168, b2_0, wI_1, wI_r, wI_i, hm 3, hm 4, mp, inI]
  grind
theorem e_x_person (a b : Int32) (h : Hp) (hp : Ip h) (h1 : 0 ≤ (h.2.1 0 13).toInt) (h2 : (h.2.1 0 13).toInt ≤ 12) : F_X10_person [.ref 0, .int a, .int b] h = if (0 ≤ a ∧ a ≤ 5) ∧ (0 ≤ b ∧ b ≤ 1000000) ∧ h.2.1 0 13 ≠ 12 then some (some (.int (h.2.1 0 13)), wI (wI (wI h 1 (h.2.1 0 13).toNatClampNeg a) 2 (h.2.1 0 13).toNatClampNeg b) 0 13 (h.2.1 0 13 + 1)) else some (some (.int (-1)), h) := by
  obtain ⟨hn, hm, -⟩ := hp
  have h3 : h.2.1 0 13 < 12 ↔ h.2.1 0 13 ≠ 12 := by
    rw [Int32.lt_iff_toInt_lt, ne_eq, ← Int32.toInt_inj]
    show (h.2.1 0 13).toInt < 12 ↔ ¬ (h.2.1 0 13).toInt = 12
    omega
  have h4 : h.2.1 0 13 < 12 → (h.2.1 0 13).toInt < 12 := fun q => Int32.lt_iff_toInt_lt.mp q
  have p0 : h.2.2 0 0 = some 1 := hm.at 0 rfl
  have p1 : h.2.2 0 1 = some 2 := hm.at 1 rfl
  apply eq_of_fq
  unfold F_X10_person
  simp only [f_mkF, w_sI, w_sR, w_sL, w_sC, w_sk, w_sbr, w_sco, w_rV, w_rI, w_rR, w_rL, w_dI, w_sO, w_sq, w_si, w_pI, w_pZ, w_pR, w_pU, w_qI, w_qB, w_qZ, w_qU, w_qR, w_kV, q_icst, q_lcst, q_xR, q_ldI, q_ldR, q_ldL, q_bn, q_un, q_dv, q_fI, q_fR, q_aI, q_aR, q_aN, q_tn, q_cmp, q_cmz, q_cnt, q_ctt, q_cand, q_cor, q_vn, q_vI, q_vR, q_vL, q_kI, q_kR, q_kL, q_ckI, envN, argE, List.flatMap_cons, List.flatMap_nil, Value.category, junk, oadd, osub, omul, oand, oor, oxor, odiv, orem, oshl, oshr, oushr, omax, omin]
  simp [rok, fq_of (e_x_isWithin _ _ _ _), fq_of (e_x_isLand _ _), nog, hn, ly0, ly1, ly2, b2_0, wI_1, wI_r, wI_i, p0, p1, inI]
  grind
theorem e_m_thing (a b c : Int32) (h : Hp) (hp : Ip h) (h1 : 0 ≤ (h.2.1 166 2).toInt) (h2 : (h.2.1 166 2).toInt ≤ 4) : F_X11_thing [.ref 166, .int a, .int b, .int c] h = if (1 ≤ a ∧ a ≤ 1000000) ∧ (0 ≤ b ∧ b < h.2.1 166 1) ∧ (0 ≤ c ∧ c ≤ 5) ∧ h.2.1 166 2 ≠ 4 then some (some (.int (h.2.1 166 2)), wI (wI (wI (wI (wI h 169 (h.2.1 166 2).toNatClampNeg a) 170 (h.2.1 166 2).toNatClampNeg b) 171 (h.2.1 166 2).toNatClampNeg c) 172 (h.2.1 166 2).toNatClampNeg 0) 166 2 (h.2.1 166 2 + 1)) else some (some (.int (-1)), h) := by
  obtain ⟨hn, -, hm⟩ := hp
  have h3 : h.2.1 166 2 ≠ 4 → (h.2.1 166 2).toInt < 4 := fun q => by
    have : (h.2.1 166 2).toInt ≠ 4 := fun z => q (Int32.toInt_inj.mp z)
    omega
  apply eq_of_fq
  unfold F_X11_thing
  simp only [f_mkF, w_sI, w_sR, w_sL, w_sC, w_sk, w_sbr, w_sco, w_rV, w_rI, w_rR, w_rL, w_dI, w_sO, w_sq, w_si, w_pI, w_pZ, w_pR, w_pU, w_qI, w_qB, w_qZ, w_qU, w_qR, w_kV, q_icst, q_lcst, q_xR, q_ldI, q_ldR, q_ldL, q_bn, q_un, q_dv, q_fI, q_fR, q_aI, q_aR, q_aN, q_tn, q_cmp, q_cmz, q_cnt, q_ctt, q_cand, q_cor, q_vn, q_vI, q_vR, q_vL, q_kI, q_kR, q_kL, q_ckI, envN, argE, List.flatMap_cons, List.flatMap_nil, Value.category, junk, oadd, osub, omul, oand, oor, oxor, odiv, orem, oshl, oshr, oushr, omax, omin]
  simp [rok, rcv, fq_of (e_m_in _ _ _ _), fq_of (e_m_isLand _ _), fq_of (e_m_isPerson _ _ hn), nog, hn, ly166, ly169, ly170, ly171, ly172, b2_0, wI_1, wI_r, wI_i, hm 5, hm 6, hm 7, hm 8, mp, inI]
  grind
theorem e_x_thing (a b c : Int32) (h : Hp) (hp : Ip h) (h1 : 0 ≤ (h.2.1 0 14).toInt) (h2 : (h.2.1 0 14).toInt ≤ 4) : F_X10_thing [.ref 0, .int a, .int b, .int c] h = if (1 ≤ a ∧ a ≤ 1000000) ∧ (0 ≤ b ∧ b ≤ h.2.1 0 13 - 1) ∧ (0 ≤ c ∧ c ≤ 5) ∧ h.2.1 0 14 ≠ 4 then some (some (.int (h.2.1 0 14)), wI (wI (wI (wI h (28 + 22 * (h.2.1 0 14).toNatClampNeg) 2 a) (28 + 22 * (h.2.1 0 14).toNatClampNeg) 3 b) (28 + 22 * (h.2.1 0 14).toNatClampNeg) 4 c) 0 14 (h.2.1 0 14 + 1)) else some (some (.int (-1)), h) := by
  obtain ⟨hn, hm, -⟩ := hp
  have h3 : h.2.1 0 14 < 4 ↔ h.2.1 0 14 ≠ 4 := by
    rw [Int32.lt_iff_toInt_lt, ne_eq, ← Int32.toInt_inj]
    show (h.2.1 0 14).toInt < 4 ↔ ¬ (h.2.1 0 14).toInt = 4
    omega
  have h4 : h.2.1 0 14 < 4 → (h.2.1 0 14).toInt < 4 := fun q => Int32.lt_iff_toInt_lt.mp q
  have p2 : h.2.2 0 2 = some 3 := hm.at 2 rfl
  have p3 : ∀ t, t < 4 → h.2.2 3 t = some (28 + 22 * t) ∧ (LY (28 + 22 * t)).1 = 9 ∧ 28 + 22 * t < 212 := by
    intro t ht
    match t, ht with
    | 0, _ => exact ⟨hm.at 11 rfl, rfl, by decide⟩
    | 1, _ => exact ⟨hm.at 12 rfl, rfl, by decide⟩
    | 2, _ => exact ⟨hm.at 13 rfl, rfl, by decide⟩
    | 3, _ => exact ⟨hm.at 14 rfl, rfl, by decide⟩
  have p4 : h.2.1 0 14 ≠ 4 → (h.2.1 0 14).toNatClampNeg < 4 := fun q => by
    have := h4 (h3.mpr q)
    have := clampI h1
    omega
  generalize hN : h.2.1 0 14 = n at *
  by_cases hn4 : n = 4
  · subst hn4
    apply eq_of_fq
    unfold F_X10_thing
    simp only [f_mkF, w_sI, w_sR, w_sL, w_sC, w_sk, w_sbr, w_sco, w_rV, w_rI, w_rR, w_rL, w_dI, w_sO, w_sq, w_si, w_pI, w_pZ, w_pR, w_pU, w_qI, w_qB, w_qZ, w_qU, w_qR, w_kV, q_icst, q_lcst, q_xR, q_ldI, q_ldR, q_ldL, q_bn, q_un, q_dv, q_fI, q_fR, q_aI, q_aR, q_aN, q_tn, q_cmp, q_cmz, q_cnt, q_ctt, q_cand, q_cor, q_vn, q_vI, q_vR, q_vL, q_kI, q_kR, q_kL, q_ckI, envN, argE, List.flatMap_cons, List.flatMap_nil, Value.category, junk, oadd, osub, omul, oand, oor, oxor, odiv, orem, oshl, oshr, oushr, omax, omin]
    simp [rok, rcv, fq_of (e_x_isWithin _ _ _ _), fq_of (e_x_isLand _ _), fq_of (e_x_isPerson _ _ hn), nog, hn, ly0, hN]
  · obtain ⟨q1, q2, q3⟩ := p3 _ (p4 hn4)
    have h5 := h3.mpr hn4
    have h6 := h4 h5
    have hT : 28 ≤ 28 + 22 * n.toNatClampNeg := by omega
    clear p3 p4 hm
    generalize 28 + 22 * n.toNatClampNeg = T at *
    have t0 : ¬ 0 = T := by omega
    have t1 : ¬ T = 0 := by omega
    apply eq_of_fq
    unfold F_X10_thing
    simp only [f_mkF, w_sI, w_sR, w_sL, w_sC, w_sk, w_sbr, w_sco, w_rV, w_rI, w_rR, w_rL, w_dI, w_sO, w_sq, w_si, w_pI, w_pZ, w_pR, w_pU, w_qI, w_qB, w_qZ, w_qU, w_qR, w_kV, q_icst, q_lcst, q_xR, q_ldI, q_ldR, q_ldL, q_bn, q_un, q_dv, q_fI, q_fR, q_aI, q_aR, q_aN, q_tn, q_cmp, q_cmz, q_cnt, q_ctt, q_cand, q_cor, q_vn, q_vI, q_vR, q_vL, q_kI, q_kR, q_kL, q_ckI, envN, argE, List.flatMap_cons, List.flatMap_nil, Value.category, junk, oadd, osub, omul, oand, oor, oxor, odiv, orem, oshl, oshr, oushr, omax, omin]
    simp [rok, rcv, fq_of (e_x_isWithin _ _ _ _), fq_of (e_x_isLand _ _), fq_of (e_x_isPerson _ _ hn), nog, hn, ly0, ly3, b2_0, wI_1, wI_r, wI_i, p2, q1, q2, q3, inI, hN, t0, t1, st1, kill, Value.category]
    grind
