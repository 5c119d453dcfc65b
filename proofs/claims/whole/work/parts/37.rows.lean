/-! a thing's passings -/
/-- the class's thing at T: its n rows, at ra, hold R -/
def TH (h : Hp) (T : Nat) (ra : Nat → Nat) (n : Nat) (R : Nat → Nat → Int32) : Prop := (h.1 = 212 ∧ 28 ≤ T ∧ T < 115 ∧ (LY T).1 = 9 ∧ h.2.2 T 0 = some (T + 1) ∧ LY (T + 1) = (16, 20)) ∧ (h.2.1 T 1 = nI n ∧ n ≤ 20) ∧ (∀ i, i < 20 → h.2.2 (T + 1) i = some (ra i) ∧ T + 2 ≤ ra i ∧ ra i < T + 22 ∧ (LY (ra i)).1 = 5) ∧ ∀ i k, i < n → k < 8 → h.2.1 (ra i) k = R i k
/-- from whom passing i goes -/
def frm (R : Nat → Nat → Int32) (fo : Int32) (i : Nat) : Int32 := if i = 0 then fo else R (i - 1) 1
/-- what the register says ahead of passing i -/
def regd (R : Nat → Nat → Int32) (fo : Int32) : Nat → Int32
  | 0 => fo
  | k + 1 => if R k 5 &&& 4 ≠ 0 then R k 1 else regd R fo k
theorem rk_i {x : Int32} : rok (some .int) (.int x) = true := rfl
theorem rk_b {x : Int32} : rok (some .boolean) (.int x) = decide (x = 0 ∨ x = 1) := by
  show (decide (x = 0) || decide (x = 1)) = _
  simp
theorem rk_o {s : String} {x : Nat} : rok (some (.object s)) (.ref x) = true := rfl
theorem e_x_sign (a : Nat) (b : Int32) (h : Hp) (hn : h.1 = 212) (ha : a < 212) (hl : (LY a).1 = 5) : F_X5_sign [.ref a, .int b] h = some (some (.int (b2 (h.2.1 a 5 &&& b ≠ 0))), h) := by
  rw [← fq_eq]
  unfold F_X5_sign
  simp only [f_mkF, w_sI, w_sR, w_sL, w_sC, w_sk, w_sbr, w_sco, w_rV, w_rI, w_rR, w_rL, w_dI, w_sO, w_sq, w_si, w_pI, w_pZ, w_pR, w_pU, w_qI, w_qB, w_qZ, w_qU, w_qR, w_kV, q_icst, q_lcst, q_xR, q_ldI, q_ldR, q_ldL, q_bn, q_un, q_dv, q_fI, q_fR, q_aI, q_aR, q_aN, q_tn, q_cmp, q_cmz, q_cnt, q_ctt, q_cand, q_cor, q_vn, q_vI, q_vR, q_vL, q_kI, q_kR, q_kL, q_ckI, envN, argE, List.flatMap_cons, List.flatMap_nil, Value.category, junk, oadd, osub, omul, oand, oor, oxor, odiv, orem, oshl, oshr, oushr, omax, omin]
  simp [rok, b2, hn, ha, hl]
  try grind
theorem e_x_from {h : Hp} {T : Nat} {ra : Nat → Nat} {n : Nat} {R : Nat → Nat → Int32} (q : TH h T ra n R) {i : Nat} (hi : i ≤ n) : F_X9_fromWhom [.ref T, .int (nI i)] h = some (some (.int (frm R (h.2.1 T 3) i)), h) := by
  obtain ⟨⟨hn, t1, t2, t3, t4, t5⟩, ⟨n1, n2⟩, r1, r2⟩ := q
  have t6 : T < 212 := by omega
  have t7 : T + 1 < 212 := by omega
  rw [← fq_eq]
  unfold F_X9_fromWhom
  simp only [f_mkF, w_sI, w_sR, w_sL, w_sC, w_sk, w_sbr, w_sco, w_rV, w_rI, w_rR, w_rL, w_dI, w_sO, w_sq, w_si, w_pI, w_pZ, w_pR, w_pU, w_qI, w_qB, w_qZ, w_qU, w_qR, w_kV, q_icst, q_lcst, q_xR, q_ldI, q_ldR, q_ldL, q_bn, q_un, q_dv, q_fI, q_fR, q_aI, q_aR, q_aN, q_tn, q_cmp, q_cmz, q_cnt, q_ctt, q_cand, q_cor, q_vn, q_vI, q_vR, q_vL, q_kI, q_kR, q_kL, q_ckI, envN, argE, List.flatMap_cons, List.flatMap_nil, Value.category, junk, oadd, osub, omul, oand, oor, oxor, odiv, orem, oshl, oshr, oushr, omax, omin]
  cases i with
  | zero => simp [rok, hn, t3, t4, t5, t6, frm, nI_0]
  | succ i =>
    obtain ⟨r3, r4, r5, r6⟩ := r1 i (by omega)
    have r7 : ra i < 212 := by omega
    simp (disch := first | omega | simp) [rok, hn, t3, t4, t5, t6, t7, n1, inI_b, nI_clamp, nI_ltI, nI_leI, nI_eq, nI_9, nI_6, nI_22, nI_12, nI_180, nI_add, nI_1, nI_pred, r3, r7, r6, r2, frm, nI_nle, nI_0, hi]
    omega
theorem e_x_holder {h : Hp} {T : Nat} {ra : Nat → Nat} {n : Nat} {R : Nat → Nat → Int32} (q : TH h T ra n R) : F_X9_holder [.ref T] h = some (some (.int (frm R (h.2.1 T 3) n)), h) := by
  have e := e_x_from q (Nat.le_refl n)
  obtain ⟨⟨hn, t1, t2, t3, t4, t5⟩, ⟨n1, n2⟩, r1, r2⟩ := q
  have t6 : T < 212 := by omega
  rw [← fq_eq]
  unfold F_X9_holder
  simp only [f_mkF, w_sI, w_sR, w_sL, w_sC, w_sk, w_sbr, w_sco, w_rV, w_rI, w_rR, w_rL, w_dI, w_sO, w_sq, w_si, w_pI, w_pZ, w_pR, w_pU, w_qI, w_qB, w_qZ, w_qU, w_qR, w_kV, q_icst, q_lcst, q_xR, q_ldI, q_ldR, q_ldL, q_bn, q_un, q_dv, q_fI, q_fR, q_aI, q_aR, q_aN, q_tn, q_cmp, q_cmz, q_cnt, q_ctt, q_cand, q_cor, q_vn, q_vI, q_vR, q_vL, q_kI, q_kR, q_kL, q_ckI, envN, argE, List.flatMap_cons, List.flatMap_nil, Value.category, junk, oadd, osub, omul, oand, oor, oxor, odiv, orem, oshl, oshr, oushr, omax, omin]
  simp [rok, rcv, hn, t3, t6, n1, fq_of e]
theorem nI_min (a b : Nat) (ha : a < 2 ^ 31) (hb : b < 2 ^ 31) : (if nI a ≤ nI b then nI a else nI b) = nI (min a b) := by
  by_cases h : a ≤ b
  · rw [if_pos ((nI_leI ha hb).mpr h), Nat.min_eq_left h]
  · rw [if_neg (fun z => h ((nI_leI ha hb).mp z)), Nat.min_eq_right (by omega)]
theorem e_x_reg {h : Hp} {T : Nat} {ra : Nat → Nat} {n : Nat} {R : Nat → Nat → Int32} (q : TH h T ra n R) {i : Nat} (hi : i ≤ n) : F_X9_registeredAhead [.ref T, .int (nI i)] h = some (some (.int (regd R (h.2.1 T 3) i)), h) := by
  obtain ⟨⟨hn, t1, t2, t3, t4, t5⟩, ⟨n1, n2⟩, r1, r2⟩ := q
  have t6 : T < 212 := by omega
  have t7 : T + 1 < 212 := by omega
  rw [← fq_eq]
  unfold F_X9_registeredAhead
  simp only [f_mkF, w_sI, w_sR, w_sL, w_sC, w_sk, w_sbr, w_sco, w_rV, w_rI, w_rR, w_rL, w_dI, w_sO, w_sq, w_si, w_pI, w_pZ, w_pR, w_pU, w_qI, w_qB, w_qZ, w_qU, w_qR, w_kV, q_icst, q_lcst, q_xR, q_ldI, q_ldR, q_ldL, q_bn, q_un, q_dv, q_fI, q_fR, q_aI, q_aR, q_aN, q_tn, q_cmp, q_cmz, q_cnt, q_ctt, q_cand, q_cor, q_vn, q_vI, q_vR, q_vL, q_kI, q_kR, q_kL, q_ckI, envN, argE, List.flatMap_cons, List.flatMap_nil, Value.category, junk, oadd, osub, omul, oand, oor, oxor, odiv, orem, oshl, oshr, oushr, omax, omin]
  simp (disch := first | omega | simp) [rk_i, rk_b, rk_o, st1, kill, Value.category, rcv, nog, hn, t3, t6, n1, inI_b, nI_clamp, nI_ltI, nI_leI, nI_eq, nI_9, nI_6, nI_22, nI_12, nI_180, nI_add, nI_1, hi]
  rw [if_neg (by omega)]
  refine w_lp (fun j E h' => h' = h ∧ j ≤ i ∧ E = [.ref T, .int (nI i), .int (nI j - 1)] ∧ regd R (h.2.1 T 3) j = regd R (h.2.1 T 3) i) ?_ i _ _ ⟨rfl, Nat.le_refl _, rfl, rfl⟩
  rintro j E h' ⟨rfl, hj, rfl, hr⟩
  simp only [f_mkF, w_sI, w_sR, w_sL, w_sC, w_sk, w_sbr, w_sco, w_rV, w_rI, w_rR, w_rL, w_dI, w_sO, w_sq, w_si, w_pI, w_pZ, w_pR, w_pU, w_qI, w_qB, w_qZ, w_qU, w_qR, w_kV, q_icst, q_lcst, q_xR, q_ldI, q_ldR, q_ldL, q_bn, q_un, q_dv, q_fI, q_fR, q_aI, q_aR, q_aN, q_tn, q_cmp, q_cmz, q_cnt, q_ctt, q_cand, q_cor, q_vn, q_vI, q_vR, q_vL, q_kI, q_kR, q_kL, q_ckI, envN, argE, List.flatMap_cons, List.flatMap_nil, Value.category, junk, oadd, osub, omul, oand, oor, oxor, odiv, orem, oshl, oshr, oushr, omax, omin]
  cases j with
  | zero =>
    simp [rk_i, rk_b, rk_o, st1, kill, Value.category, rcv, nog, hn, t3, t6, nI_0, zlt]
    exact hr
  | succ j =>
    obtain ⟨r3, r4, r5, r6⟩ := r1 j (by omega)
    have r7 : ra j < 212 := by omega
    have r8 := r2 j 1 (by omega) (by omega)
    have r9 := r2 j 5 (by omega) (by omega)
    simp (disch := first | omega | simp) [rk_i, rk_b, rk_o, st1, kill, Value.category, rcv, nog, hn, t3, t4, t5, t6, t7, n1, inI_b, nI_clamp, nI_ltI, nI_leI, nI_eq, nI_9, nI_6, nI_22, nI_12, nI_180, nI_add, nI_1, nI_pred, r3, r7, r6, r8, r9, nI_pos, fq_of (e_x_sign (ra j) 4 _ hn r7 r6), zlt, b2_1]
    intro _
    rw [← hr]
    refine ⟨by omega, fun z => ⟨by omega, by simp [regd, z]⟩, fun z => ⟨j, by omega, by omega, (Int32.sub_eq_add_neg _ _).symm, by simp [regd, z]⟩⟩
theorem nI_m1 (a : Nat) : nI (a + 1) + -1 = nI a := by rw [← Int32.sub_eq_add_neg, nI_pred]
/-- where a passing of that month belongs -/
def plc (R : Nat → Nat → Int32) (m : Int32) : Nat → Nat
  | 0 => 0
  | k + 1 => if m < R k 3 then plc R m k else k + 1
theorem plc_le (R : Nat → Nat → Int32) (m : Int32) (n : Nat) : plc R m n ≤ n := by
  induction n with
  | zero => exact Nat.le_refl _
  | succ k ih =>
    unfold plc
    split <;> omega
theorem e_x_place {h : Hp} {T : Nat} {ra : Nat → Nat} {n : Nat} {R : Nat → Nat → Int32} (q : TH h T ra n R) (m : Int32) : F_X9_placeOf [.ref T, .int m] h = some (some (.int (nI (plc R m n))), h) := by
  obtain ⟨⟨hn, t1, t2, t3, t4, t5⟩, ⟨n1, n2⟩, r1, r2⟩ := q
  have t6 : T < 212 := by omega
  have t7 : T + 1 < 212 := by omega
  rw [← fq_eq]
  unfold F_X9_placeOf
  simp only [f_mkF, w_sI, w_sR, w_sL, w_sC, w_sk, w_sbr, w_sco, w_rV, w_rI, w_rR, w_rL, w_dI, w_sO, w_sq, w_si, w_pI, w_pZ, w_pR, w_pU, w_qI, w_qB, w_qZ, w_qU, w_qR, w_kV, q_icst, q_lcst, q_xR, q_ldI, q_ldR, q_ldL, q_bn, q_un, q_dv, q_fI, q_fR, q_aI, q_aR, q_aN, q_tn, q_cmp, q_cmz, q_cnt, q_ctt, q_cand, q_cor, q_vn, q_vI, q_vR, q_vL, q_kI, q_kR, q_kL, q_ckI, envN, argE, List.flatMap_cons, List.flatMap_nil, Value.category, junk, oadd, osub, omul, oand, oor, oxor, odiv, orem, oshl, oshr, oushr, omax, omin]
  simp (disch := first | omega | simp) [rk_i, rk_b, rk_o, st1, kill, Value.category, rcv, nog, hn, t3, t6, n1]
  refine w_lp (fun j E h' => h' = h ∧ j ≤ n ∧ E = [.ref T, .int m, .int (nI j)] ∧ plc R m j = plc R m n) ?_ n _ _ ⟨rfl, Nat.le_refl _, rfl, rfl⟩
  rintro j E h' ⟨rfl, hj, rfl, hr⟩
  simp only [f_mkF, w_sI, w_sR, w_sL, w_sC, w_sk, w_sbr, w_sco, w_rV, w_rI, w_rR, w_rL, w_dI, w_sO, w_sq, w_si, w_pI, w_pZ, w_pR, w_pU, w_qI, w_qB, w_qZ, w_qU, w_qR, w_kV, q_icst, q_lcst, q_xR, q_ldI, q_ldR, q_ldL, q_bn, q_un, q_dv, q_fI, q_fR, q_aI, q_aR, q_aN, q_tn, q_cmp, q_cmz, q_cnt, q_ctt, q_cand, q_cor, q_vn, q_vI, q_vR, q_vL, q_kI, q_kR, q_kL, q_ckI, envN, argE, List.flatMap_cons, List.flatMap_nil, Value.category, junk, oadd, osub, omul, oand, oor, oxor, odiv, orem, oshl, oshr, oushr, omax, omin]
  cases j with
  | zero =>
    simp [rk_i, rk_b, rk_o, st1, kill, Value.category, rcv, nog, nI_0, zle]
    rw [← hr]
    rfl
  | succ j =>
    obtain ⟨r3, r4, r5, r6⟩ := r1 j (by omega)
    have r7 : ra j < 212 := by omega
    have r8 := r2 j 3 (by omega) (by omega)
    simp (disch := first | omega | simp) [rk_i, rk_b, rk_o, st1, kill, Value.category, rcv, nog, hn, t3, t4, t5, t6, t7, n1, inI_b, nI_clamp, nI_ltI, nI_leI, nI_eq, nI_9, nI_6, nI_22, nI_12, nI_180, nI_add, nI_1, nI_pred, r3, r7, r6, r8, nI_nle, zle, ole, nI_m1]
    rw [← hr]
    intro _
    refine ⟨by omega, fun z => by simp [plc, Int32.not_lt.mpr z], fun z => ⟨j, by omega, by omega, rfl, by simp [plc, z]⟩⟩
theorem e_x_can {h : Hp} {T : Nat} {ra : Nat → Nat} {n : Nat} {R : Nat → Nat → Int32} (q : TH h T ra n R) (to : Int32) {at' : Nat} (ha : at' ≤ n) : F_X9_canGoTo [.ref T, .int to, .int (nI at')] h = some (some (.int (b2 (n < 20 ∧ to ≠ frm R (h.2.1 T 3) at' ∧ (at' < n → R at' 1 ≠ to)))), h) := by
  have e := e_x_from q ha
  obtain ⟨⟨hn, t1, t2, t3, t4, t5⟩, ⟨n1, n2⟩, r1, r2⟩ := q
  have t6 : T < 212 := by omega
  have t7 : T + 1 < 212 := by omega
  have k20 : (20 : Int32) = nI 20 := rfl
  rw [← fq_eq]
  unfold F_X9_canGoTo
  simp only [f_mkF, w_sI, w_sR, w_sL, w_sC, w_sk, w_sbr, w_sco, w_rV, w_rI, w_rR, w_rL, w_dI, w_sO, w_sq, w_si, w_pI, w_pZ, w_pR, w_pU, w_qI, w_qB, w_qZ, w_qU, w_qR, w_kV, q_icst, q_lcst, q_xR, q_ldI, q_ldR, q_ldL, q_bn, q_un, q_dv, q_fI, q_fR, q_aI, q_aR, q_aN, q_tn, q_cmp, q_cmz, q_cnt, q_ctt, q_cand, q_cor, q_vn, q_vI, q_vR, q_vL, q_kI, q_kR, q_kL, q_ckI, envN, argE, List.flatMap_cons, List.flatMap_nil, Value.category, junk, oadd, osub, omul, oand, oor, oxor, odiv, orem, oshl, oshr, oushr, omax, omin]
  by_cases hc : at' < n
  · obtain ⟨r3, r4, r5, r6⟩ := r1 at' (by omega)
    have r7 : ra at' < 212 := by omega
    have r8 := r2 at' 1 (by omega) (by omega)
    simp (disch := first | omega | simp) [rk_i, rk_b, rk_o, st1, kill, Value.category, rcv, nog, hn, t3, t4, t5, t6, t7, n1, inI_b, nI_clamp, nI_ltI, nI_leI, nI_eq, nI_9, nI_6, nI_22, nI_12, nI_180, nI_add, nI_1, r3, r7, r6, r8, k20, fq_of e, hc, b2]
    clear r1 r2
    have : at' < 20 := by omega
    grind
  · simp (disch := first | omega | simp) [rk_i, rk_b, rk_o, st1, kill, Value.category, rcv, nog, hn, t3, t4, t5, t6, t7, n1, inI_b, nI_clamp, nI_ltI, nI_leI, nI_eq, nI_9, nI_6, nI_22, nI_12, nI_180, nI_add, nI_1, k20, fq_of e, hc, b2]
    clear r1 r2
    grind
/-- how many minds are unsure -/
def uns (R : Nat → Nat → Int32) : Nat → Nat
  | 0 => 0
  | k + 1 => uns R k + if R k 6 < R k 7 then 1 else 0
theorem uns_le (R : Nat → Nat → Int32) (n : Nat) : uns R n ≤ n := by
  induction n with
  | zero => exact Nat.le_refl _
  | succ k ih =>
    unfold uns
    split <;> omega
theorem e_x_unsure {h : Hp} {T : Nat} {ra : Nat → Nat} {n : Nat} {R : Nat → Nat → Int32} (q : TH h T ra n R) : F_X9_unsureCount [.ref T] h = some (some (.int (nI (uns R n))), h) := by
  obtain ⟨⟨hn, t1, t2, t3, t4, t5⟩, ⟨n1, n2⟩, r1, r2⟩ := q
  have t6 : T < 212 := by omega
  have t7 : T + 1 < 212 := by omega
  rw [← fq_eq]
  unfold F_X9_unsureCount
  simp only [f_mkF, w_sI, w_sR, w_sL, w_sC, w_sk, w_sbr, w_sco, w_rV, w_rI, w_rR, w_rL, w_dI, w_sO, w_sq, w_si, w_pI, w_pZ, w_pR, w_pU, w_qI, w_qB, w_qZ, w_qU, w_qR, w_kV, q_icst, q_lcst, q_xR, q_ldI, q_ldR, q_ldL, q_bn, q_un, q_dv, q_fI, q_fR, q_aI, q_aR, q_aN, q_tn, q_cmp, q_cmz, q_cnt, q_ctt, q_cand, q_cor, q_vn, q_vI, q_vR, q_vL, q_kI, q_kR, q_kL, q_ckI, envN, argE, List.flatMap_cons, List.flatMap_nil, Value.category, junk, oadd, osub, omul, oand, oor, oxor, odiv, orem, oshl, oshr, oushr, omax, omin]
  simp (disch := first | omega | simp) [rk_i, rk_b, rk_o, st1, kill, Value.category, rcv, nog, hn, t3, t6, n1]
  refine w_lp (fun k E h' => h' = h ∧ ∃ j, j ≤ n ∧ k = n - j ∧ E = [.ref T, .int (nI (uns R j)), .int (nI j)]) ?_ n _ _ ⟨rfl, 0, Nat.zero_le _, rfl, rfl⟩
  rintro k E h' ⟨rfl, j, hj, rfl, rfl⟩
  simp only [f_mkF, w_sI, w_sR, w_sL, w_sC, w_sk, w_sbr, w_sco, w_rV, w_rI, w_rR, w_rL, w_dI, w_sO, w_sq, w_si, w_pI, w_pZ, w_pR, w_pU, w_qI, w_qB, w_qZ, w_qU, w_qR, w_kV, q_icst, q_lcst, q_xR, q_ldI, q_ldR, q_ldL, q_bn, q_un, q_dv, q_fI, q_fR, q_aI, q_aR, q_aN, q_tn, q_cmp, q_cmz, q_cnt, q_ctt, q_cand, q_cor, q_vn, q_vI, q_vR, q_vL, q_kI, q_kR, q_kL, q_ckI, envN, argE, List.flatMap_cons, List.flatMap_nil, Value.category, junk, oadd, osub, omul, oand, oor, oxor, odiv, orem, oshl, oshr, oushr, omax, omin]
  by_cases hjn : j < n
  · obtain ⟨r3, r4, r5, r6⟩ := r1 j (by omega)
    have r7 : ra j < 212 := by omega
    have r8 := r2 j 6 (by omega) (by omega)
    have r9 := r2 j 7 (by omega) (by omega)
    simp (disch := first | omega | simp) [rk_i, rk_b, rk_o, st1, kill, Value.category, rcv, nog, hn, t3, t4, t5, t6, t7, n1, inI_b, nI_clamp, nI_ltI, nI_leI, nI_eq, nI_9, nI_6, nI_22, nI_12, nI_180, nI_add, nI_1, r3, r7, r6, r8, r9, hjn]
    refine ⟨fun z => by omega, by omega, fun z => ⟨n - (j + 1), by omega, j + 1, by omega, rfl, by simp [uns, z], rfl⟩, fun z => ⟨n - (j + 1), by omega, j + 1, by omega, rfl, by simp [uns, Int32.not_lt.mpr z], rfl⟩⟩
  · have : j = n := by omega
    subst this
    simp (disch := first | omega | simp) [rk_i, rk_b, rk_o, st1, kill, Value.category, rcv, nog, hn, t3, t6, n1, inI_b, nI_clamp, nI_ltI, nI_leI, nI_eq, nI_9, nI_6, nI_22, nI_12, nI_180, nI_add, nI_1]
theorem wI_cong {h h' : Hp} {a k : Nat} {v : Int32} (e : h.2.1 = h'.2.1) : (wI h a k v).2.1 = (wI h' a k v).2.1 := by
  funext x j
  rw [wI_i, wI_i, e]
/-- the rows when one is put in at that place -/
def insA (ra : Nat → Nat) (n at' : Nat) (i : Nat) : Nat := if i < at' then ra i else if i = at' then ra n else if i ≤ n then ra (i - 1) else ra i
theorem e_x_insert {h : Hp} {T : Nat} {ra : Nat → Nat} {n : Nat} {R : Nat → Nat → Int32} (q : TH h T ra n R) {at' : Nat} (ha : at' ≤ n) (h20 : n < 20) : fq F_X9_insert [.ref T, .int (nI at')] h fun r h' => r = some (.ref (ra n)) ∧ h'.1 = 212 ∧ h'.2.1 = (wI h T 1 (nI (n + 1))).2.1 ∧ (∀ i, i < 20 → h'.2.2 (T + 1) i = some (insA ra n at' i)) ∧ ∀ a k, a ≠ T + 1 → h'.2.2 a k = h.2.2 a k := by
  obtain ⟨⟨hn, t1, t2, t3, t4, t5⟩, ⟨n1, n2⟩, r1, r2⟩ := q
  have t6 : T < 212 := by omega
  have t7 : T + 1 < 212 := by omega
  obtain ⟨u1, u2, u3, u4⟩ := r1 n h20
  have u5 : ra n < 212 := by omega
  unfold F_X9_insert
  simp only [f_mkF, w_sI, w_sR, w_sL, w_sC, w_sk, w_sbr, w_sco, w_rV, w_rI, w_rR, w_rL, w_dI, w_sO, w_sq, w_si, w_pI, w_pZ, w_pR, w_pU, w_qI, w_qB, w_qZ, w_qU, w_qR, w_kV, q_icst, q_lcst, q_xR, q_ldI, q_ldR, q_ldL, q_bn, q_un, q_dv, q_fI, q_fR, q_aI, q_aR, q_aN, q_tn, q_cmp, q_cmz, q_cnt, q_ctt, q_cand, q_cor, q_vn, q_vI, q_vR, q_vL, q_kI, q_kR, q_kL, q_ckI, envN, argE, List.flatMap_cons, List.flatMap_nil, Value.category, junk, oadd, osub, omul, oand, oor, oxor, odiv, orem, oshl, oshr, oushr, omax, omin]
  simp (disch := first | omega | simp) [rk_i, rk_b, rk_o, st1, kill, Value.category, rcv, nog, hn, t3, t4, t5, t6, t7, n1, inI_b, nI_clamp, nI_ltI, nI_leI, nI_eq, nI_9, nI_6, nI_22, nI_12, nI_180, nI_add, nI_1, u1]
  refine ⟨h20, ?_⟩
  refine w_lp (fun k E h' => (h'.1 = 212 ∧ h'.2.1 = h.2.1 ∧ ∀ a k, a ≠ T + 1 → h'.2.2 a k = h.2.2 a k) ∧ ∃ j, at' ≤ j ∧ j ≤ n ∧ k = j ∧ E = [.ref T, .int (nI at'), .ref (ra n), .int (nI j)] ∧ ∀ i, i < 20 → h'.2.2 (T + 1) i = some (if i ≤ j then ra i else insA ra n at' i)) ?_ n _ _ ⟨⟨hn, rfl, fun _ _ _ => rfl⟩, n, ha, Nat.le_refl _, rfl, rfl, ?_⟩
  · rintro k E h' ⟨⟨f1, f2, f3⟩, j, hj1, hj2, rfl, rfl, f4⟩
    have f5 := f3 T 0 (by omega)
    rw [t4] at f5
    simp only [f_mkF, w_sI, w_sR, w_sL, w_sC, w_sk, w_sbr, w_sco, w_rV, w_rI, w_rR, w_rL, w_dI, w_sO, w_sq, w_si, w_pI, w_pZ, w_pR, w_pU, w_qI, w_qB, w_qZ, w_qU, w_qR, w_kV, q_icst, q_lcst, q_xR, q_ldI, q_ldR, q_ldL, q_bn, q_un, q_dv, q_fI, q_fR, q_aI, q_aR, q_aN, q_tn, q_cmp, q_cmz, q_cnt, q_ctt, q_cand, q_cor, q_vn, q_vI, q_vR, q_vL, q_kI, q_kR, q_kL, q_ckI, envN, argE, List.flatMap_cons, List.flatMap_nil, Value.category, junk, oadd, osub, omul, oand, oor, oxor, odiv, orem, oshl, oshr, oushr, omax, omin]
    by_cases hja : k = at'
    · subst hja
      simp (disch := first | omega | simp) [rk_i, rk_b, rk_o, st1, kill, Value.category, rcv, nog, f1, t3, t4, t5, t6, t7, f5, inI_b, nI_clamp, nI_ltI, nI_leI, nI_eq, nI_9, nI_6, nI_22, nI_12, nI_180, nI_add, nI_1, f2, u5, u4, wR_1, wR_i, wI_1, wI_r, wR_r, n1]
      refine ⟨by omega, wI_cong f2, fun i hi => ?_, fun a b hab => by rw [if_neg (by omega)]; exact f3 a b hab⟩
      by_cases hik : i = k
      · rw [if_pos hik, insA, if_neg (by omega), if_pos hik]
      · rw [if_neg hik, f4 i hi]
        unfold insA
        grind
    · match k, hja, hj1, hj2, f4 with
      | 0, hja, hj1, hj2, f4 => omega
      | k + 1, hja, hj1, hj2, f4 =>
        have g1 := f4 k (by omega)
        rw [if_pos (by omega)] at g1
        have g2 := r1 k (by omega)
        have g3 : ra k < 212 := by omega
        have g4 : at' < k + 1 := by omega
        simp (disch := first | omega | simp) [rk_i, rk_b, rk_o, st1, kill, Value.category, rcv, nog, f1, t3, t4, t5, t6, t7, f5, inI_b, nI_clamp, nI_ltI, nI_leI, nI_eq, nI_9, nI_6, nI_22, nI_12, nI_180, nI_add, nI_1, nI_pred, nI_m1, f2, u5, u4, wR_1, wR_i, wI_1, wI_r, wR_r, n1, g1, g2.2.2.2, g3, g4]
        refine ⟨fun z => by omega, by omega, by omega, k, by omega, fun a b hab => by rw [if_neg (by omega)]; exact f3 a b hab, k, by omega, by omega, rfl, rfl, fun i hi => ?_⟩
        by_cases hik : i = k + 1
        · rw [if_pos hik, if_neg (by omega), insA, if_neg (by omega), if_neg (by omega), if_pos (by omega), hik]
          rfl
        · rw [if_neg hik, f4 i hi]
          grind
  · intro i hi
    rw [(r1 i hi).1]
    unfold insA
    grind
