/-! the reference's rows -/
theorem nI_pred2 (a b : Nat) : nI (a + (b + 1)) - 1 = nI (a + b) := nI_pred _
theorem e_m_from {h : Hp} (hp : Ip h) {t i : Nat} (ht : t < 4) (hi : i ≤ 22) : F_X11_fromOf [.ref 166, .int (nI t), .int (nI i)] h = some (some (.int (frm (mrow h t) (h.2.1 170 t) i)), h) := by
  have hn := hp.1
  have hm := hp.2.2
  rw [← fq_eq]
  unfold F_X11_fromOf
  simp only [f_mkF, w_sI, w_sR, w_sL, w_sC, w_sk, w_sbr, w_sco, w_rV, w_rI, w_rR, w_rL, w_dI, w_sO, w_sq, w_si, w_pI, w_pZ, w_pR, w_pU, w_qI, w_qB, w_qZ, w_qU, w_qR, w_kV, q_icst, q_lcst, q_xR, q_ldI, q_ldR, q_ldL, q_bn, q_un, q_dv, q_fI, q_fR, q_aI, q_aR, q_aN, q_tn, q_cmp, q_cmz, q_cnt, q_ctt, q_cand, q_cor, q_vn, q_vI, q_vR, q_vL, q_kI, q_kR, q_kL, q_ckI, envN, argE, List.flatMap_cons, List.flatMap_nil, Value.category, junk, oadd, osub, omul, oand, oor, oxor, odiv, orem, oshl, oshr, oushr, omax, omin]
  cases i with
  | zero =>
    simp (disch := first | omega | simp) [rk_i, rk_b, rk_o, st1, kill, Value.category, rcv, nog, hn, ly166, ly170, hm 6, mp, inI_b, nI_clamp, nI_ltI, nI_leI, nI_eq, nI_9, nI_6, nI_22, nI_12, nI_180, nI_add, nI_1, nI_0, zne, frm]
    omega
  | succ i =>
    have z := nI_ne0 (n := i + 1) (by omega) (by omega)
    simp (disch := first | omega | simp) [rk_i, rk_b, rk_o, st1, kill, Value.category, rcv, nog, hn, ly166, ly174, hm 10, mp, inI_b, nI_clamp, nI_ltI, nI_leI, nI_eq, nI_9, nI_6, nI_22, nI_12, nI_180, nI_add, nI_1, nI_pred2, z, zne, frm, mrow]
    omega
theorem e_m_reg {h : Hp} (hp : Ip h) {t i : Nat} (ht : t < 4) (hi : i ≤ 22) : F_X11_registered [.ref 166, .int (nI t), .int (nI i)] h = some (some (.int (regd (mrow h t) (h.2.1 170 t) i)), h) := by
  have hn := hp.1
  have hm := hp.2.2
  rw [← fq_eq]
  unfold F_X11_registered
  simp only [f_mkF, w_sI, w_sR, w_sL, w_sC, w_sk, w_sbr, w_sco, w_rV, w_rI, w_rR, w_rL, w_dI, w_sO, w_sq, w_si, w_pI, w_pZ, w_pR, w_pU, w_qI, w_qB, w_qZ, w_qU, w_qR, w_kV, q_icst, q_lcst, q_xR, q_ldI, q_ldR, q_ldL, q_bn, q_un, q_dv, q_fI, q_fR, q_aI, q_aR, q_aN, q_tn, q_cmp, q_cmz, q_cnt, q_ctt, q_cand, q_cor, q_vn, q_vI, q_vR, q_vL, q_kI, q_kR, q_kL, q_ckI, envN, argE, List.flatMap_cons, List.flatMap_nil, Value.category, junk, oadd, osub, omul, oand, oor, oxor, odiv, orem, oshl, oshr, oushr, omax, omin]
  simp (disch := first | omega | simp) [rk_i, rk_b, rk_o, st1, kill, Value.category, rcv, nog, hn, ly166, ly170, hm 6, mp, inI_b, nI_clamp, nI_ltI, nI_leI, nI_eq, nI_9, nI_6, nI_22, nI_12, nI_180, nI_add, nI_1]
  refine ⟨by omega, ?_⟩
  refine w_lp (fun k E h' => h' = h ∧ ∃ j, j ≤ i ∧ k = i - j ∧ E = [.ref 166, .int (nI t), .int (nI i), .int (regd (mrow h t) (h.2.1 170 t) j), .int (nI j)]) ?_ i _ _ ⟨rfl, 0, Nat.zero_le _, rfl, rfl⟩
  rintro k E h' ⟨rfl, j, hj, rfl, rfl⟩
  simp only [f_mkF, w_sI, w_sR, w_sL, w_sC, w_sk, w_sbr, w_sco, w_rV, w_rI, w_rR, w_rL, w_dI, w_sO, w_sq, w_si, w_pI, w_pZ, w_pR, w_pU, w_qI, w_qB, w_qZ, w_qU, w_qR, w_kV, q_icst, q_lcst, q_xR, q_ldI, q_ldR, q_ldL, q_bn, q_un, q_dv, q_fI, q_fR, q_aI, q_aR, q_aN, q_tn, q_cmp, q_cmz, q_cnt, q_ctt, q_cand, q_cor, q_vn, q_vI, q_vR, q_vL, q_kI, q_kR, q_kL, q_ckI, envN, argE, List.flatMap_cons, List.flatMap_nil, Value.category, junk, oadd, osub, omul, oand, oor, oxor, odiv, orem, oshl, oshr, oushr, omax, omin]
  by_cases hjn : j < i
  · simp (disch := first | omega | simp) [rk_i, rk_b, rk_o, st1, kill, Value.category, rcv, nog, hn, ly166, ly178, ly174, hm 14, hm 10, mp, inI_b, nI_clamp, nI_ltI, nI_leI, nI_eq, nI_9, nI_6, nI_22, nI_12, nI_180, nI_add, nI_1, hjn]
    refine ⟨fun z => by omega, by omega, fun z => ⟨by omega, i - (j + 1), by omega, j + 1, by omega, rfl, ?_, rfl⟩, fun z => ⟨i - (j + 1), by omega, j + 1, by omega, rfl, ?_, rfl⟩⟩
    · simp [regd, mrow, z]
    · simp [regd, mrow, z]
  · have : j = i := by omega
    subst this
    simp (disch := first | omega | simp) [rk_i, rk_b, rk_o, st1, kill, Value.category, rcv, nog, hn, inI_b, nI_clamp, nI_ltI, nI_leI, nI_eq, nI_9, nI_6, nI_22, nI_12, nI_180, nI_add, nI_1]
theorem e_m_isMind (lo hi : Int32) (h : Hp) : F_X11_isMind [.int lo, .int hi] h = some (some (.int (b2 (0 ≤ lo ∧ lo ≤ hi ∧ hi ≤ 2))), h) := by
  rw [← fq_eq]
  unfold F_X11_isMind
  simp only [f_mkF, w_sI, w_sR, w_sL, w_sC, w_sk, w_sbr, w_sco, w_rV, w_rI, w_rR, w_rL, w_dI, w_sO, w_sq, w_si, w_pI, w_pZ, w_pR, w_pU, w_qI, w_qB, w_qZ, w_qU, w_qR, w_kV, q_icst, q_lcst, q_xR, q_ldI, q_ldR, q_ldL, q_bn, q_un, q_dv, q_fI, q_fR, q_aI, q_aR, q_aN, q_tn, q_cmp, q_cmz, q_cnt, q_ctt, q_cand, q_cor, q_vn, q_vI, q_vR, q_vL, q_kI, q_kR, q_kL, q_ckI, envN, argE, List.flatMap_cons, List.flatMap_nil, Value.category, junk, oadd, osub, omul, oand, oor, oxor, odiv, orem, oshl, oshr, oushr, omax, omin]
  simp [rk_i, rk_b, rk_o, st1, kill, Value.category, rcv, nog, fq_of (e_m_in _ _ _ _), b2_0, b2]
  grind
theorem e_x_isRange (lo hi : Int32) (h : Hp) : F_X10_isRangeOfMind [.int lo, .int hi] h = some (some (.int (b2 (0 ≤ lo ∧ lo ≤ hi ∧ hi ≤ 2))), h) := by
  rw [← fq_eq]
  unfold F_X10_isRangeOfMind
  simp only [f_mkF, w_sI, w_sR, w_sL, w_sC, w_sk, w_sbr, w_sco, w_rV, w_rI, w_rR, w_rL, w_dI, w_sO, w_sq, w_si, w_pI, w_pZ, w_pR, w_pU, w_qI, w_qB, w_qZ, w_qU, w_qR, w_kV, q_icst, q_lcst, q_xR, q_ldI, q_ldR, q_ldL, q_bn, q_un, q_dv, q_fI, q_fR, q_aI, q_aR, q_aN, q_tn, q_cmp, q_cmz, q_cnt, q_ctt, q_cand, q_cor, q_vn, q_vI, q_vR, q_vL, q_kI, q_kR, q_kL, q_ckI, envN, argE, List.flatMap_cons, List.flatMap_nil, Value.category, junk, oadd, osub, omul, oand, oor, oxor, odiv, orem, oshl, oshr, oushr, omax, omin]
  simp [rk_i, rk_b, rk_o, st1, kill, Value.category, rcv, nog, b2, zlt, ogt]
  grind
theorem e_m_isPassing {h : Hp} (hp : Ip h) (t i : Int32) (h2 : (h.2.1 166 2).toInt ≤ 4) : F_X11_isPassing [.ref 166, .int t, .int i] h = some (some (.int (b2 ((0 ≤ t ∧ t < h.2.1 166 2) ∧ 0 ≤ i ∧ i < h.2.1 172 t.toNatClampNeg))), h) := by
  have hn := hp.1
  have hm := hp.2.2
  have h3 : 0 ≤ t → t < h.2.1 166 2 → inI t 4 = true := by
    intro z1 z2
    rw [Int32.le_iff_toInt_le] at z1
    rw [Int32.lt_iff_toInt_lt] at z2
    exact ix_of z1 (by omega)
  rw [← fq_eq]
  unfold F_X11_isPassing
  simp only [f_mkF, w_sI, w_sR, w_sL, w_sC, w_sk, w_sbr, w_sco, w_rV, w_rI, w_rR, w_rL, w_dI, w_sO, w_sq, w_si, w_pI, w_pZ, w_pR, w_pU, w_qI, w_qB, w_qZ, w_qU, w_qR, w_kV, q_icst, q_lcst, q_xR, q_ldI, q_ldR, q_ldL, q_bn, q_un, q_dv, q_fI, q_fR, q_aI, q_aR, q_aN, q_tn, q_cmp, q_cmz, q_cnt, q_ctt, q_cand, q_cor, q_vn, q_vI, q_vR, q_vL, q_kI, q_kR, q_kL, q_ckI, envN, argE, List.flatMap_cons, List.flatMap_nil, Value.category, junk, oadd, osub, omul, oand, oor, oxor, odiv, orem, oshl, oshr, oushr, omax, omin]
  simp [rk_i, rk_b, rk_o, st1, kill, Value.category, rcv, nog, fq_of (e_m_isThing _ _ hn), b2_0, b2, hn, ly166, ly172, hm 8, mp, zlt]
  grind
theorem e_x_isPassing {h : Hp} (hp : Ip h) (t i : Int32) (h1 : 0 ≤ (h.2.1 0 14).toInt) (h2 : (h.2.1 0 14).toInt ≤ 4) : F_X10_isPassing [.ref 0, .int t, .int i] h = some (some (.int (b2 ((0 ≤ t ∧ t ≤ h.2.1 0 14 - 1) ∧ 0 ≤ i ∧ i ≤ h.2.1 (28 + 22 * t.toNatClampNeg) 1 - 1))), h) := by
  have hn := hp.1
  have p2 : h.2.2 0 2 = some 3 := hp.2.1.at 2 rfl
  have h3 : 0 ≤ t → t ≤ h.2.1 0 14 - 1 → inI t 4 = true ∧ h.2.2 3 t.toNatClampNeg = some (28 + 22 * t.toNatClampNeg) ∧ 28 + 22 * t.toNatClampNeg < 212 ∧ (LY (28 + 22 * t.toNatClampNeg)).1 = 9 := by
    intro z1 z2
    rw [le_pred h1 h2 (by decide)] at z2
    rw [Int32.le_iff_toInt_le] at z1
    rw [Int32.lt_iff_toInt_lt] at z2
    have z3 := clampI z1
    have z4 := ptT hp (t := t.toNatClampNeg) (by omega)
    exact ⟨ix_of z1 (by omega), z4.1, by omega, z4.2.1⟩
  by_cases hc : 0 ≤ t ∧ t ≤ h.2.1 0 14 - 1
  · obtain ⟨z1, z2, z3, z4⟩ := h3 hc.1 hc.2
    rw [← fq_eq]
    unfold F_X10_isPassing
    simp only [f_mkF, w_sI, w_sR, w_sL, w_sC, w_sk, w_sbr, w_sco, w_rV, w_rI, w_rR, w_rL, w_dI, w_sO, w_sq, w_si, w_pI, w_pZ, w_pR, w_pU, w_qI, w_qB, w_qZ, w_qU, w_qR, w_kV, q_icst, q_lcst, q_xR, q_ldI, q_ldR, q_ldL, q_bn, q_un, q_dv, q_fI, q_fR, q_aI, q_aR, q_aN, q_tn, q_cmp, q_cmz, q_cnt, q_ctt, q_cand, q_cor, q_vn, q_vI, q_vR, q_vL, q_kI, q_kR, q_kL, q_ckI, envN, argE, List.flatMap_cons, List.flatMap_nil, Value.category, junk, oadd, osub, omul, oand, oor, oxor, odiv, orem, oshl, oshr, oushr, omax, omin]
    simp [rk_i, rk_b, rk_o, st1, kill, Value.category, rcv, nog, fq_of (e_x_isThing _ _ hn), fq_of (e_x_isWithin _ _ _ _), b2_0, b2, hn, ly0, ly3, p2, z1, z2, z3, z4, hc]
    grind
  · rw [← fq_eq]
    unfold F_X10_isPassing
    simp only [f_mkF, w_sI, w_sR, w_sL, w_sC, w_sk, w_sbr, w_sco, w_rV, w_rI, w_rR, w_rL, w_dI, w_sO, w_sq, w_si, w_pI, w_pZ, w_pR, w_pU, w_qI, w_qB, w_qZ, w_qU, w_qR, w_kV, q_icst, q_lcst, q_xR, q_ldI, q_ldR, q_ldL, q_bn, q_un, q_dv, q_fI, q_fR, q_aI, q_aR, q_aN, q_tn, q_cmp, q_cmz, q_cnt, q_ctt, q_cand, q_cor, q_vn, q_vI, q_vR, q_vL, q_kI, q_kR, q_kL, q_ckI, envN, argE, List.flatMap_cons, List.flatMap_nil, Value.category, junk, oadd, osub, omul, oand, oor, oxor, odiv, orem, oshl, oshr, oushr, omax, omin]
    simp [rk_i, rk_b, rk_o, st1, kill, Value.category, rcv, nog, fq_of (e_x_isThing _ _ hn), b2_0, b2, hn, ly0]
    grind
theorem e_x_knows (a : Nat) (b c : Int32) (h : Hp) (hn : h.1 = 212) (ha : a < 212) (hl : (LY a).1 = 5) : F_X5_knows [.ref a, .int b, .int c] h = some (none, wI (wI h a 6 b) a 7 c) := by
  rw [← fq_eq]
  unfold F_X5_knows
  simp only [f_mkF, w_sI, w_sR, w_sL, w_sC, w_sk, w_sbr, w_sco, w_rV, w_rI, w_rR, w_rL, w_dI, w_sO, w_sq, w_si, w_pI, w_pZ, w_pR, w_pU, w_qI, w_qB, w_qZ, w_qU, w_qR, w_kV, q_icst, q_lcst, q_xR, q_ldI, q_ldR, q_ldL, q_bn, q_un, q_dv, q_fI, q_fR, q_aI, q_aR, q_aN, q_tn, q_cmp, q_cmz, q_cnt, q_ctt, q_cand, q_cor, q_vn, q_vI, q_vR, q_vL, q_kI, q_kR, q_kL, q_ckI, envN, argE, List.flatMap_cons, List.flatMap_nil, Value.category, junk, oadd, osub, omul, oand, oor, oxor, odiv, orem, oshl, oshr, oushr, omax, omin]
  simp [rk_i, rk_b, rk_o, st1, kill, Value.category, rcv, nog, hn, ha, hl, wI_1]
theorem e_x_costs (a : Nat) (b c : Int32) (h : Hp) (hn : h.1 = 212) (ha : a < 212) (hl : (LY a).1 = 5) : F_X5_costs [.ref a, .int b, .int c] h = some (none, wI (wI h a 4 b) a 5 c) := by
  rw [← fq_eq]
  unfold F_X5_costs
  simp only [f_mkF, w_sI, w_sR, w_sL, w_sC, w_sk, w_sbr, w_sco, w_rV, w_rI, w_rR, w_rL, w_dI, w_sO, w_sq, w_si, w_pI, w_pZ, w_pR, w_pU, w_qI, w_qB, w_qZ, w_qU, w_qR, w_kV, q_icst, q_lcst, q_xR, q_ldI, q_ldR, q_ldL, q_bn, q_un, q_dv, q_fI, q_fR, q_aI, q_aR, q_aN, q_tn, q_cmp, q_cmz, q_cnt, q_ctt, q_cand, q_cor, q_vn, q_vI, q_vR, q_vL, q_kI, q_kR, q_kL, q_ckI, envN, argE, List.flatMap_cons, List.flatMap_nil, Value.category, junk, oadd, osub, omul, oand, oor, oxor, odiv, orem, oshl, oshr, oushr, omax, omin]
  simp [rk_i, rk_b, rk_o, st1, kill, Value.category, rcv, nog, hn, ha, hl, wI_1]
theorem e_x_goes (a : Nat) (b c d e : Int32) (h : Hp) (hn : h.1 = 212) (ha : a < 212) (hl : (LY a).1 = 5) : F_X5_goes [.ref a, .int b, .int c, .int d, .int e] h = some (none, wI (wI (wI (wI h a 0 b) a 1 c) a 2 d) a 3 e) := by
  rw [← fq_eq]
  unfold F_X5_goes
  simp only [f_mkF, w_sI, w_sR, w_sL, w_sC, w_sk, w_sbr, w_sco, w_rV, w_rI, w_rR, w_rL, w_dI, w_sO, w_sq, w_si, w_pI, w_pZ, w_pR, w_pU, w_qI, w_qB, w_qZ, w_qU, w_qR, w_kV, q_icst, q_lcst, q_xR, q_ldI, q_ldR, q_ldL, q_bn, q_un, q_dv, q_fI, q_fR, q_aI, q_aR, q_aN, q_tn, q_cmp, q_cmz, q_cnt, q_ctt, q_cand, q_cor, q_vn, q_vI, q_vR, q_vL, q_kI, q_kR, q_kL, q_ckI, envN, argE, List.flatMap_cons, List.flatMap_nil, Value.category, junk, oadd, osub, omul, oand, oor, oxor, odiv, orem, oshl, oshr, oushr, omax, omin]
  simp [rk_i, rk_b, rk_o, st1, kill, Value.category, rcv, nog, hn, ha, hl, wI_1]
/-- thing t as the invariant has it -/
theorem th_of {LW : Hp → Prop} {n : Nat} {h : Hp} (q : INV LW n h) {t : Nat} (ht : t < 4) : ∃ ra m, TH h (28 + 22 * t) ra m (mrow h t) ∧ h.2.1 172 t = nI m ∧ (∀ i j, i < 20 → j < 20 → ra i = ra j → i = j) ∧ (∀ i, i < m → rowV (h.2.1 166 1).toInt (h.2.1 166 0).toInt (mrow h t i)) ∧ ∀ i, i + 1 < m → (mrow h t i 3).toInt ≤ (mrow h t (i + 1) 3).toInt := by
  obtain ⟨q0, q1, q2, q3, q4, q5, ⟨t1, t2, t3⟩, q7, q8, q9, q10⟩ := q
  obtain ⟨ra, r1, r2, r3⟩ := q7 t ht
  obtain ⟨⟨x1, -, -, -⟩, ⟨x2, x3⟩, -, -⟩ := t3 t ht
  have z := nI_toI x2
  have z2 := clampI x2
  generalize (h.2.1 172 t).toNatClampNeg = m at z z2
  obtain ⟨p1, p2, p3, p4⟩ := ptT q0 ht
  refine ⟨ra, m, ⟨⟨q0.1, by omega, by omega, p2, by rw [p3, show 29 + 22 * t = 28 + 22 * t + 1 by omega], by rw [← p4, show 29 + 22 * t = 28 + 22 * t + 1 by omega]⟩, ⟨by rw [x1, z], by omega⟩, fun i hi => ?_, fun i k hi hk => (r3 i (by omega) (by omega)).1 k hk⟩, z, r2, fun i hi => (r3 i (by omega) (by omega)).2.1, fun i hi => (r3 i (by omega) (by omega)).2.2 (by omega)⟩
  obtain ⟨y1, y2, y3⟩ := r1 i hi
  exact ⟨by rw [show 28 + 22 * t + 1 = 29 + 22 * t by omega]; exact y1, by omega, by omega, lyRow ht y2 y3⟩
theorem th_fo {LW : Hp → Prop} {n : Nat} {h : Hp} (q : INV LW n h) {t : Nat} (ht : t < 4) : h.2.1 (28 + 22 * t) 3 = h.2.1 170 t ∧ h.2.1 (28 + 22 * t) 2 = h.2.1 169 t ∧ h.2.1 (28 + 22 * t) 4 = h.2.1 171 t ∧ h.2.1 (28 + 22 * t) 1 = h.2.1 172 t := by
  obtain ⟨q0, q1, q2, q3, q4, q5, ⟨t1, t2, t3⟩, q7, q8, q9, q10⟩ := q
  obtain ⟨⟨x1, x2, x3, x4⟩, -⟩ := t3 t ht
  exact ⟨x3, x2, x4, x1⟩
/-- a thing's number -/
theorem th_num {LW : Hp → Prop} {n : Nat} {h : Hp} (q : INV LW n h) {a : Int32} (h0 : 0 ≤ a) (h1 : a < h.2.1 166 2) : ∃ t, t < 4 ∧ a = nI t := by
  have t2 := q.2.2.2.2.2.2.1.2.1
  rw [Int32.le_iff_toInt_le] at h0
  rw [Int32.lt_iff_toInt_lt] at h1
  have z := clampI h0
  exact ⟨a.toNatClampNeg, by omega, nI_toI h0⟩
theorem x_thing {LW : Hp → Prop} {n : Nat} {h : Hp} (q : INV LW n h) {a : Int32} : a ≤ h.2.1 0 14 - 1 ↔ a < h.2.1 166 2 := by
  obtain ⟨q0, q1, q2, q3, q4, q5, ⟨t1, t2, t3⟩, q7, q8, q9, q10⟩ := q
  rw [t1, le_pred t2.1 (n := 4) t2.2 (by decide)]
theorem x_person {LW : Hp → Prop} {n : Nat} {h : Hp} (q : INV LW n h) {a : Int32} : a ≤ h.2.1 0 13 - 1 ↔ a < h.2.1 166 1 := by
  obtain ⟨q0, q1, ⟨t1, t2, t3⟩, q3, q4, q5, q6, q7, q8, q9, q10⟩ := q
  rw [t1, le_pred t2.1 (n := 12) t2.2 (by decide)]
/-- the thing's and the passing's bounds are the same on both sides -/
theorem i_x_isThing {LW : Hp → Prop} {n : Nat} {h : Hp} (q : INV LW n h) (t : Int32) : F_X10_isThing [.ref 0, .int t] h = some (some (.int (b2 (0 ≤ t ∧ t < h.2.1 166 2))), h) := by
  rw [e_x_isThing t h q.1.1]
  simp only [x_thing q]
theorem i_x_isPerson {LW : Hp → Prop} {n : Nat} {h : Hp} (q : INV LW n h) (t : Int32) : F_X10_isPerson [.ref 0, .int t] h = some (some (.int (b2 (0 ≤ t ∧ t < h.2.1 166 1))), h) := by
  rw [e_x_isPerson t h q.1.1]
  simp only [x_person q]
theorem b2_c {c d : Prop} [Decidable c] [Decidable d] (e : c ↔ d) : b2 c = b2 d := by
  unfold b2
  by_cases h : c
  · rw [if_pos h, if_pos (e.mp h)]
  · rw [if_neg h, if_neg fun z => h (e.mpr z)]
theorem i_x_isPassing {LW : Hp → Prop} {n : Nat} {h : Hp} (q : INV LW n h) (t i : Int32) : F_X10_isPassing [.ref 0, .int t, .int i] h = some (some (.int (b2 ((0 ≤ t ∧ t < h.2.1 166 2) ∧ 0 ≤ i ∧ i < h.2.1 172 t.toNatClampNeg))), h) := by
  have q' := q
  obtain ⟨q0, q1, q2, q3, q4, q5, ⟨t1, t2, t3⟩, q7, q8, q9, q10⟩ := q
  rw [e_x_isPassing q0 t i (by rw [t1]; omega) (by rw [t1]; omega)]
  congr 4
  apply b2_c
  rw [x_thing q']
  by_cases hc : 0 ≤ t ∧ t < h.2.1 166 2
  · obtain ⟨j, hj, rfl⟩ := th_num q' hc.1 hc.2
    rw [nI_clamp (by omega)]
    obtain ⟨⟨x1, -⟩, x2, -⟩ := t3 j hj
    rw [x1, le_pred x2.1 (n := 20) x2.2 (by decide)]
  · simp [hc]
theorem i_m_isPassing {LW : Hp → Prop} {n : Nat} {h : Hp} (q : INV LW n h) (t i : Int32) : F_X11_isPassing [.ref 166, .int t, .int i] h = some (some (.int (b2 ((0 ≤ t ∧ t < h.2.1 166 2) ∧ 0 ≤ i ∧ i < h.2.1 172 t.toNatClampNeg))), h) := e_m_isPassing q.1 t i q.2.2.2.2.2.2.1.2.1.2
theorem i_m_isThing {LW : Hp → Prop} {n : Nat} {h : Hp} (q : INV LW n h) (t : Int32) : F_X11_isThing [.ref 166, .int t] h = some (some (.int (b2 (0 ≤ t ∧ t < h.2.1 166 2))), h) := e_m_isThing t h q.1.1
/-- a passing's number -/
theorem pa_num {LW : Hp → Prop} {n : Nat} {h : Hp} (q : INV LW n h) {a b : Int32} (h0 : (0 ≤ a ∧ a < h.2.1 166 2) ∧ 0 ≤ b ∧ b < h.2.1 172 a.toNatClampNeg) : ∃ t i m, t < 4 ∧ a = nI t ∧ b = nI i ∧ i < m ∧ m ≤ 20 ∧ h.2.1 172 t = nI m := by
  obtain ⟨t, ht, rfl⟩ := th_num q h0.1.1 h0.1.2
  rw [nI_clamp (by omega)] at h0
  obtain ⟨ra, m, t1, t2, -⟩ := th_of q ht
  rw [t2] at h0
  have t3 := t1.2.1.2
  have z1 := Int32.le_iff_toInt_le.mp h0.2.1
  have z2 := Int32.lt_iff_toInt_lt.mp h0.2.2
  rw [nI_toInt (by omega)] at z2
  have z3 := clampI z1
  exact ⟨t, b.toNatClampNeg, m, ht, rfl, nI_toI z1, by omega, t3, t2⟩
theorem g_holds {LW : Hp → Prop} : AG (INV LW) F_X10_holds F_X11_holds 1 := by
  intro n h vs hl hn q
  match vs, hl with
  | [a], _ =>
    have q0 := q.1
    have hn := q0.1
    by_cases hc : 0 ≤ a ∧ a < h.2.1 166 2
    · obtain ⟨t, ht, rfl⟩ := th_num q hc.1 hc.2
      obtain ⟨ra, m, t1, t2, -⟩ := th_of q ht
      have t3 := t1.2.1.2
      obtain ⟨p1, p2, -⟩ := ptT q0 ht
      have p3 : 28 + 22 * t < 212 := by omega
      have p4 : h.2.2 0 2 = some 3 := q0.2.1.at 2 rfl
      have hm := q0.2.2
      refine ⟨frm (mrow h t) (h.2.1 170 t) m, h, h, ?_, hn, ?_, INV_up q⟩
      · rw [← fq_eq]
        unfold F_X10_holds
        simp only [List.map_cons, List.map_nil, f_mkF, w_sI, w_sR, w_sL, w_sC, w_sk, w_sbr, w_sco, w_rV, w_rI, w_rR, w_rL, w_dI, w_sO, w_sq, w_si, w_pI, w_pZ, w_pR, w_pU, w_qI, w_qB, w_qZ, w_qU, w_qR, w_kV, q_icst, q_lcst, q_xR, q_ldI, q_ldR, q_ldL, q_bn, q_un, q_dv, q_fI, q_fR, q_aI, q_aR, q_aN, q_tn, q_cmp, q_cmz, q_cnt, q_ctt, q_cand, q_cor, q_vn, q_vI, q_vR, q_vL, q_kI, q_kR, q_kL, q_ckI, envN, argE, List.flatMap_cons, List.flatMap_nil, Value.category, junk, oadd, osub, omul, oand, oor, oxor, odiv, orem, oshl, oshr, oushr, omax, omin]
        simp (disch := first | omega | simp) [rk_i, rk_b, rk_o, st1, kill, Value.category, rcv, nog, fq_of (i_x_isThing q _), b2_0, hc, hn, ly0, ly3, p1, p2, p3, p4, inI_b, nI_clamp, nI_ltI, nI_leI, nI_eq, nI_9, nI_6, nI_22, nI_12, nI_180, nI_add, nI_1, fq_of (e_x_holder t1), th_fo q ht]
        omega
      · rw [← fq_eq]
        unfold F_X11_holds
        simp only [List.map_cons, List.map_nil, f_mkF, w_sI, w_sR, w_sL, w_sC, w_sk, w_sbr, w_sco, w_rV, w_rI, w_rR, w_rL, w_dI, w_sO, w_sq, w_si, w_pI, w_pZ, w_pR, w_pU, w_qI, w_qB, w_qZ, w_qU, w_qR, w_kV, q_icst, q_lcst, q_xR, q_ldI, q_ldR, q_ldL, q_bn, q_un, q_dv, q_fI, q_fR, q_aI, q_aR, q_aN, q_tn, q_cmp, q_cmz, q_cnt, q_ctt, q_cand, q_cor, q_vn, q_vI, q_vR, q_vL, q_kI, q_kR, q_kL, q_ckI, envN, argE, List.flatMap_cons, List.flatMap_nil, Value.category, junk, oadd, osub, omul, oand, oor, oxor, odiv, orem, oshl, oshr, oushr, omax, omin]
        have e : F_X11_holderOf [.ref 166, .int (nI t)] h = some (some (.int (frm (mrow h t) (h.2.1 170 t) m)), h) := by
          rw [← fq_eq]
          unfold F_X11_holderOf
          simp only [f_mkF, w_sI, w_sR, w_sL, w_sC, w_sk, w_sbr, w_sco, w_rV, w_rI, w_rR, w_rL, w_dI, w_sO, w_sq, w_si, w_pI, w_pZ, w_pR, w_pU, w_qI, w_qB, w_qZ, w_qU, w_qR, w_kV, q_icst, q_lcst, q_xR, q_ldI, q_ldR, q_ldL, q_bn, q_un, q_dv, q_fI, q_fR, q_aI, q_aR, q_aN, q_tn, q_cmp, q_cmz, q_cnt, q_ctt, q_cand, q_cor, q_vn, q_vI, q_vR, q_vL, q_kI, q_kR, q_kL, q_ckI, envN, argE, List.flatMap_cons, List.flatMap_nil, Value.category, junk, oadd, osub, omul, oand, oor, oxor, odiv, orem, oshl, oshr, oushr, omax, omin]
          simp (disch := first | omega | simp) [rk_i, rk_b, rk_o, st1, kill, Value.category, rcv, nog, hn, ly166, ly172, hm 8, mp, inI_b, nI_clamp, nI_ltI, nI_leI, nI_eq, nI_9, nI_6, nI_22, nI_12, nI_180, nI_add, nI_1, t2, fq_of (e_m_from q0 ht (by omega : m ≤ 22))]
          omega
        simp (disch := first | omega | simp) [rk_i, rk_b, rk_o, st1, kill, Value.category, rcv, nog, fq_of (i_m_isThing q _), b2_0, hc, hn, ly166, fq_of e]
    · refine ⟨-1, h, h, ?_, hn, ?_, INV_up q⟩
      · rw [← fq_eq]
        unfold F_X10_holds
        simp only [List.map_cons, List.map_nil, f_mkF, w_sI, w_sR, w_sL, w_sC, w_sk, w_sbr, w_sco, w_rV, w_rI, w_rR, w_rL, w_dI, w_sO, w_sq, w_si, w_pI, w_pZ, w_pR, w_pU, w_qI, w_qB, w_qZ, w_qU, w_qR, w_kV, q_icst, q_lcst, q_xR, q_ldI, q_ldR, q_ldL, q_bn, q_un, q_dv, q_fI, q_fR, q_aI, q_aR, q_aN, q_tn, q_cmp, q_cmz, q_cnt, q_ctt, q_cand, q_cor, q_vn, q_vI, q_vR, q_vL, q_kI, q_kR, q_kL, q_ckI, envN, argE, List.flatMap_cons, List.flatMap_nil, Value.category, junk, oadd, osub, omul, oand, oor, oxor, odiv, orem, oshl, oshr, oushr, omax, omin]
        simp [rk_i, rk_b, rk_o, st1, kill, Value.category, rcv, nog, fq_of (i_x_isThing q _), b2_0, hn, ly0]
        grind
      · rw [← fq_eq]
        unfold F_X11_holds
        simp only [List.map_cons, List.map_nil, f_mkF, w_sI, w_sR, w_sL, w_sC, w_sk, w_sbr, w_sco, w_rV, w_rI, w_rR, w_rL, w_dI, w_sO, w_sq, w_si, w_pI, w_pZ, w_pR, w_pU, w_qI, w_qB, w_qZ, w_qU, w_qR, w_kV, q_icst, q_lcst, q_xR, q_ldI, q_ldR, q_ldL, q_bn, q_un, q_dv, q_fI, q_fR, q_aI, q_aR, q_aN, q_tn, q_cmp, q_cmz, q_cnt, q_ctt, q_cand, q_cor, q_vn, q_vI, q_vR, q_vL, q_kI, q_kR, q_kL, q_ckI, envN, argE, List.flatMap_cons, List.flatMap_nil, Value.category, junk, oadd, osub, omul, oand, oor, oxor, odiv, orem, oshl, oshr, oushr, omax, omin]
        simp [rk_i, rk_b, rk_o, st1, kill, Value.category, rcv, nog, fq_of (i_m_isThing q _), b2_0, hn, ly166]
        grind
