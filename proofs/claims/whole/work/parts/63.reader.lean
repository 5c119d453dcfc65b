/-! the class's reader: its small methods -/
/-- the reader at work: bytes s, end e, draft la -/
def RX (s : Nat → Nat) (e la : Nat) (h : Hp) : Prop := h.1 = 212 ∧ (h.2.2 146 0 = some 13 ∧ h.2.2 146 4 = some la ∧ lawA la) ∧ (h.2.2 la 0 = some (la + 1) ∧ h.2.2 la 1 = some (la + 2) ∧ h.2.2 la 2 = some (la + 3) ∧ h.2.2 la 3 = some (la + 4)) ∧ (h.2.1 146 1 = nI e ∧ e ≤ 160) ∧ (∀ p, p < e → oand (h.2.1 13 p) 255 = nI (s p)) ∧ (∀ p, s p < 256) ∧ ∀ p, e ≤ p → s p = 0
theorem i2c_b : ∀ b, b < 256 → oi2c (nI b) = nI b := by decide +kernel
theorem x_sign {s : Nat → Nat} {e la : Nat} {h : Hp} (q : RX s e la h) {p : Nat} (hp : h.2.1 146 2 = nI p) (hpe : p ≤ e) : F_X4_sign [.ref 146] h = some (some (.int (nI (s p))), h) := by
  obtain ⟨hn, ⟨p1, p2, p3⟩, -, ⟨e1, e2⟩, hb, hs, hz⟩ := q
  rw [← fq_eq]
  unfold F_X4_sign
  refine f_mkE _ rfl (by simp [argE, Value.category]) ?_
  rw [w_rI, q_tn]
  by_cases c : p < e
  · refine ev_T ?_ ⟨fun _ => ?_, fun z => by cases z⟩
    · simp only [f_mkF, w_sI, w_sR, w_sL, w_sC, w_sk, w_sbr, w_sco, w_rV, w_rI, w_rR, w_rL, w_dI, w_sO, w_sq, w_si, w_pI, w_pZ, w_pR, w_pU, w_qI, w_qB, w_qZ, w_qU, w_qR, w_kV, q_icst, q_lcst, q_xR, q_ldI, q_ldR, q_ldL, q_bn, q_un, q_dv, q_fI, q_fR, q_aI, q_aR, q_aN, q_tn, q_cmp, q_cmz, q_cnt, q_ctt, q_cand, q_cor, q_vn, q_vI, q_vR, q_vL, q_kI, q_kR, q_kL, q_ckI, envN, argE, List.flatMap_cons, List.flatMap_nil, Value.category, junk, oadd, osub, omul, oand, oor, oxor, odiv, orem, oshl, oshr, oushr, omax, omin]
      simp (disch := first | omega | simp) [rk_i, rk_b, rk_o, st1, kill, Value.category, rcv, nog, inI_b, nI_clamp, nI_ltI, nI_leI, nI_eq, nI_9, nI_6, nI_22, nI_12, nI_180, nI_add, nI_1, hn, ly146, hp, e1, c]
    · have hp2 : p < 200 := by omega
      have b1 := hb p c
      have b2 := i2c_b (s p) (hs p)
      rw [q_un, q_bn]
      refine ev_mono (P := fun v h1 => v = h.2.1 13 p ∧ h1 = h) (by simp only [f_mkF, w_sI, w_sR, w_sL, w_sC, w_sk, w_sbr, w_sco, w_rV, w_rI, w_rR, w_rL, w_dI, w_sO, w_sq, w_si, w_pI, w_pZ, w_pR, w_pU, w_qI, w_qB, w_qZ, w_qU, w_qR, w_kV, q_icst, q_lcst, q_xR, q_ldI, q_ldR, q_ldL, q_bn, q_un, q_dv, q_fI, q_fR, q_aI, q_aR, q_aN, q_tn, q_cmp, q_cmz, q_cnt, q_ctt, q_cand, q_cor, q_vn, q_vI, q_vR, q_vL, q_kI, q_kR, q_kL, q_ckI, envN, argE, List.flatMap_cons, List.flatMap_nil, Value.category, junk, oadd, osub, omul, oand, oor, oxor, odiv, orem, oshl, oshr, oushr, omax, omin]; simp (disch := first | omega | simp) [rk_i, rk_b, rk_o, st1, kill, Value.category, rcv, nog, inI_b, nI_clamp, nI_ltI, nI_leI, nI_eq, nI_9, nI_6, nI_22, nI_12, nI_180, nI_add, nI_1, hn, ly146, ly13, p1, hp, hp2]) ?_
      rintro v h1 ⟨rfl, rfl⟩
      rw [q_icst, b1, b2]
      refine Or.inr ⟨rfl, ?_, rfl, rfl⟩
      have : ∀ b, b < 256 → rok (some FieldType.char) (.int (nI b)) = true := by decide +kernel
      exact this _ (hs p)
  · refine ev_F ?_ ⟨(fun z => by cases z), fun _ => ?_⟩
    · simp only [f_mkF, w_sI, w_sR, w_sL, w_sC, w_sk, w_sbr, w_sco, w_rV, w_rI, w_rR, w_rL, w_dI, w_sO, w_sq, w_si, w_pI, w_pZ, w_pR, w_pU, w_qI, w_qB, w_qZ, w_qU, w_qR, w_kV, q_icst, q_lcst, q_xR, q_ldI, q_ldR, q_ldL, q_bn, q_un, q_dv, q_fI, q_fR, q_aI, q_aR, q_aN, q_tn, q_cmp, q_cmz, q_cnt, q_ctt, q_cand, q_cor, q_vn, q_vI, q_vR, q_vL, q_kI, q_kR, q_kL, q_ckI, envN, argE, List.flatMap_cons, List.flatMap_nil, Value.category, junk, oadd, osub, omul, oand, oor, oxor, odiv, orem, oshl, oshr, oushr, omax, omin]
      simp (disch := first | omega | simp) [rk_i, rk_b, rk_o, st1, kill, Value.category, rcv, nog, inI_b, nI_clamp, nI_ltI, nI_leI, nI_eq, nI_9, nI_6, nI_22, nI_12, nI_180, nI_add, nI_1, hn, ly146, hp, e1]
      try omega
    · rw [q_icst, hz p (by omega)]
      exact Or.inr ⟨rfl, rfl, rfl, rfl⟩
/-- the first fault stays -/
def flt (f0 : Int32) (w p : Nat) : Int32 := if f0 = 0 then -(nI (1000 * w + p)) else f0
theorem x_fail {s : Nat → Nat} {e la : Nat} {h : Hp} (q : RX s e la h) {p w : Nat} (hp : h.2.1 146 2 = nI p) : F_X4_fail [.ref 146, .int (nI w)] h = some (none, if h.2.1 146 3 = 0 then wI h 146 3 (-1000 * nI w - nI p) else h) := by
  obtain ⟨hn, -⟩ := q
  rw [← fq_eq]
  unfold F_X4_fail
  refine f_mkE _ rfl (by simp [argE, Value.category]) ?_
  by_cases c : h.2.1 146 3 = 0
  · rw [if_pos c]
    simp only [f_mkF, w_sI, w_sR, w_sL, w_sC, w_sk, w_sbr, w_sco, w_rV, w_rI, w_rR, w_rL, w_dI, w_sO, w_sq, w_si, w_pI, w_pZ, w_pR, w_pU, w_qI, w_qB, w_qZ, w_qU, w_qR, w_kV, q_icst, q_lcst, q_xR, q_ldI, q_ldR, q_ldL, q_bn, q_un, q_dv, q_fI, q_fR, q_aI, q_aR, q_aN, q_tn, q_cmp, q_cmz, q_cnt, q_ctt, q_cand, q_cor, q_vn, q_vI, q_vR, q_vL, q_kI, q_kR, q_kL, q_ckI, envN, argE, List.flatMap_cons, List.flatMap_nil, Value.category, junk, oadd, osub, omul, oand, oor, oxor, odiv, orem, oshl, oshr, oushr, omax, omin]
    simp (disch := first | omega | simp) [rk_i, rk_b, rk_o, st1, kill, Value.category, rcv, nog, hn, ly146, hp, c]
  · rw [if_neg c]
    simp only [f_mkF, w_sI, w_sR, w_sL, w_sC, w_sk, w_sbr, w_sco, w_rV, w_rI, w_rR, w_rL, w_dI, w_sO, w_sq, w_si, w_pI, w_pZ, w_pR, w_pU, w_qI, w_qB, w_qZ, w_qU, w_qR, w_kV, q_icst, q_lcst, q_xR, q_ldI, q_ldR, q_ldL, q_bn, q_un, q_dv, q_fI, q_fR, q_aI, q_aR, q_aN, q_tn, q_cmp, q_cmz, q_cnt, q_ctt, q_cand, q_cor, q_vn, q_vI, q_vR, q_vL, q_kI, q_kR, q_kL, q_ckI, envN, argE, List.flatMap_cons, List.flatMap_nil, Value.category, junk, oadd, osub, omul, oand, oor, oxor, odiv, orem, oshl, oshr, oushr, omax, omin]
    simp (disch := first | omega | simp) [rk_i, rk_b, rk_o, st1, kill, Value.category, rcv, nog, hn, ly146, hp, c]
theorem x_expect {s : Nat → Nat} {e la : Nat} {h : Hp} (q : RX s e la h) {p c : Nat} (hp : h.2.1 146 2 = nI p) (hpe : p ≤ e) (hc : c < 256) : F_X4_expect [.ref 146, .int (nI c)] h = some (none, if s p = c then wI h 146 2 (nI (p + 1)) else if h.2.1 146 3 = 0 then wI h 146 3 (-1000 * nI 1 - nI p) else h) := by
  have hn := q.1
  have hb := q.2.2.2.2.2.1 p
  have e1 := x_sign q hp hpe
  have e2 := x_fail q (w := 1) hp
  rw [← fq_eq]
  unfold F_X4_expect
  refine f_mkE _ rfl (by simp [argE, Value.category]) ?_
  by_cases c1 : s p = c
  · rw [if_pos c1]
    rw [c1] at e1
    simp only [f_mkF, w_sI, w_sR, w_sL, w_sC, w_sk, w_sbr, w_sco, w_rV, w_rI, w_rR, w_rL, w_dI, w_sO, w_sq, w_si, w_pI, w_pZ, w_pR, w_pU, w_qI, w_qB, w_qZ, w_qU, w_qR, w_kV, q_icst, q_lcst, q_xR, q_ldI, q_ldR, q_ldL, q_bn, q_un, q_dv, q_fI, q_fR, q_aI, q_aR, q_aN, q_tn, q_cmp, q_cmz, q_cnt, q_ctt, q_cand, q_cor, q_vn, q_vI, q_vR, q_vL, q_kI, q_kR, q_kL, q_ckI, envN, argE, List.flatMap_cons, List.flatMap_nil, Value.category, junk, oadd, osub, omul, oand, oor, oxor, odiv, orem, oshl, oshr, oushr, omax, omin]
    simp (disch := first | omega | simp) [rk_i, rk_b, rk_o, st1, kill, Value.category, rcv, nog, inI_b, nI_clamp, nI_ltI, nI_leI, nI_eq, nI_9, nI_6, nI_22, nI_12, nI_180, nI_add, nI_1, hn, ly146, hp, fq_of e1]
  · rw [if_neg c1]
    have e2' : F_X4_fail [.ref 146, .int 1] h = _ := e2
    simp only [f_mkF, w_sI, w_sR, w_sL, w_sC, w_sk, w_sbr, w_sco, w_rV, w_rI, w_rR, w_rL, w_dI, w_sO, w_sq, w_si, w_pI, w_pZ, w_pR, w_pU, w_qI, w_qB, w_qZ, w_qU, w_qR, w_kV, q_icst, q_lcst, q_xR, q_ldI, q_ldR, q_ldL, q_bn, q_un, q_dv, q_fI, q_fR, q_aI, q_aR, q_aN, q_tn, q_cmp, q_cmz, q_cnt, q_ctt, q_cand, q_cor, q_vn, q_vI, q_vR, q_vL, q_kI, q_kR, q_kL, q_ckI, envN, argE, List.flatMap_cons, List.flatMap_nil, Value.category, junk, oadd, osub, omul, oand, oor, oxor, odiv, orem, oshl, oshr, oushr, omax, omin]
    simp (disch := first | omega | simp) [rk_i, rk_b, rk_o, st1, kill, Value.category, rcv, nog, inI_b, nI_clamp, nI_ltI, nI_leI, nI_eq, nI_9, nI_6, nI_22, nI_12, nI_180, nI_add, nI_1, hn, ly146, hp, fq_of e1, fq_of e2', c1]
theorem x_opens {s : Nat → Nat} {e la : Nat} {h : Hp} (q : RX s e la h) {p d : Nat} (hp : h.2.1 146 2 = nI p) (hd : d < 1000) : F_X4_opens [.ref 146, .int (nI d)] h = if d < 6 then some (some (.int 1), wI h 146 2 (nI (p + 1))) else some (some (.int 0), if h.2.1 146 3 = 0 then wI h 146 3 (-1000 * nI 5 - nI p) else h) := by
  have hn := q.1
  have e2 : F_X4_fail [.ref 146, .int 5] h = _ := x_fail q (w := 5) hp
  have k6 : (6 : Int32) = nI 6 := rfl
  by_cases c1 : d < 6
  · rw [if_pos c1, ← fq_eq]
    unfold F_X4_opens
    refine f_mkE _ rfl (by simp [argE, Value.category]) ?_
    simp only [f_mkF, w_sI, w_sR, w_sL, w_sC, w_sk, w_sbr, w_sco, w_rV, w_rI, w_rR, w_rL, w_dI, w_sO, w_sq, w_si, w_pI, w_pZ, w_pR, w_pU, w_qI, w_qB, w_qZ, w_qU, w_qR, w_kV, q_icst, q_lcst, q_xR, q_ldI, q_ldR, q_ldL, q_bn, q_un, q_dv, q_fI, q_fR, q_aI, q_aR, q_aN, q_tn, q_cmp, q_cmz, q_cnt, q_ctt, q_cand, q_cor, q_vn, q_vI, q_vR, q_vL, q_kI, q_kR, q_kL, q_ckI, envN, argE, List.flatMap_cons, List.flatMap_nil, Value.category, junk, oadd, osub, omul, oand, oor, oxor, odiv, orem, oshl, oshr, oushr, omax, omin]
    simp (disch := first | omega | simp) [rk_i, rk_b, rk_o, st1, kill, Value.category, rcv, nog, inI_b, nI_clamp, nI_ltI, nI_leI, nI_eq, nI_9, nI_6, nI_22, nI_12, nI_180, nI_add, nI_1, hn, ly146, hp, k6, c1]
    intro z
    omega
  · rw [if_neg c1, ← fq_eq]
    unfold F_X4_opens
    refine f_mkE _ rfl (by simp [argE, Value.category]) ?_
    simp only [f_mkF, w_sI, w_sR, w_sL, w_sC, w_sk, w_sbr, w_sco, w_rV, w_rI, w_rR, w_rL, w_dI, w_sO, w_sq, w_si, w_pI, w_pZ, w_pR, w_pU, w_qI, w_qB, w_qZ, w_qU, w_qR, w_kV, q_icst, q_lcst, q_xR, q_ldI, q_ldR, q_ldL, q_bn, q_un, q_dv, q_fI, q_fR, q_aI, q_aR, q_aN, q_tn, q_cmp, q_cmz, q_cnt, q_ctt, q_cand, q_cor, q_vn, q_vI, q_vR, q_vL, q_kI, q_kR, q_kL, q_ckI, envN, argE, List.flatMap_cons, List.flatMap_nil, Value.category, junk, oadd, osub, omul, oand, oor, oxor, odiv, orem, oshl, oshr, oushr, omax, omin]
    simp (disch := first | omega | simp) [rk_i, rk_b, rk_o, st1, kill, Value.category, rcv, nog, inI_b, nI_clamp, nI_ltI, nI_leI, nI_eq, nI_9, nI_6, nI_22, nI_12, nI_180, nI_add, nI_1, hn, ly146, hp, fq_of e2, k6, c1]
    omega
