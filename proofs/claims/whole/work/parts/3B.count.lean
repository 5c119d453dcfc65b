/-! count -/
theorem k_10 : (10 : Int32) = nI 10 := rfl
theorem k_19 : (19 : Int32) = nI 19 := rfl
theorem k_20 : (20 : Int32) = nI 20 := rfl
theorem k_29 : (29 : Int32) = nI 29 := rfl
theorem k_30 : (30 : Int32) = nI 30 := rfl
theorem k_42 : (42 : Int32) = nI 42 := rfl
theorem k_9 : (9 : Int32) = nI 9 := rfl
theorem k_25 : (25 : Int32) = nI 25 := rfl
theorem k_5 : (5 : Int32) = nI 5 := rfl
theorem nI_sub (a b : Nat) : nI (a + b) - nI a = nI b := by
  rw [← nI_add, Int32.add_comm, Int32.add_sub_cancel]
theorem lyLaw {a : Nat} (h : lawA a) : a < 212 ∧ (LY a).1 = 3 := by
  rcases h with rfl | rfl | rfl | rfl | rfl | rfl | rfl <;> exact ⟨by decide, rfl⟩
/-- what count answers -/
def cntS (h : Hp) (w : Int32) : Int32 := if w = 0 then h.2.1 166 0 else if w = 1 then h.2.1 166 1 else if w = 2 then h.2.1 166 2 else if w = 3 then h.2.1 166 20 else if 10 ≤ w.toInt ∧ w.toInt < 10 + (h.2.1 166 2).toInt then h.2.1 172 (w.toInt - 10).toNat else if 20 ≤ w.toInt ∧ w.toInt < 26 then h.2.1 190 (w.toInt - 20).toNat else if 30 ≤ w.toInt ∧ w.toInt < 30 + (h.2.1 166 1).toInt then h.2.1 168 (w.toInt - 30).toNat else -1
theorem i4 (w : Int32) : (w = 0 ∨ w = 1 ∨ w = 2 ∨ w = 3) ∨ (w.toInt < 0 ∨ 4 ≤ w.toInt) := by
  simp only [← Int32.toInt_inj]
  show (w.toInt = 0 ∨ w.toInt = 1 ∨ w.toInt = 2 ∨ w.toInt = 3) ∨ _
  omega
theorem ni4 {w : Int32} (hw : w.toInt < 0 ∨ 4 ≤ w.toInt) : w ≠ 0 ∧ w ≠ 1 ∧ w ≠ 2 ∧ w ≠ 3 := by
  refine ⟨?_, ?_, ?_, ?_⟩ <;> (rintro rfl; revert hw; decide)
theorem nI_subc {a k : Nat} (h : a ≤ k) : nI k - nI a = nI (k - a) := by
  have := nI_sub a (k - a)
  rwa [show a + (k - a) = k by omega] at this
theorem i43 (w : Int32) : (∃ k, k < 43 ∧ w = nI k) ∨ (w.toInt < 0 ∨ 43 ≤ w.toInt) := by
  by_cases h : w.toInt < 0 ∨ 43 ≤ w.toInt
  · exact Or.inr h
  · have := clampI (x := w) (by omega)
    exact Or.inl ⟨w.toNatClampNeg, by omega, nI_toI (by omega)⟩
theorem i_m_count {LW : Hp → Prop} {n : Nat} {h : Hp} (q : INV LW n h) (w : Int32) : F_X11_count [.ref 166, .int w] h = some (some (.int (cntS h w)), h) := by
  have q0 := q.1
  have hn := q0.1
  have hm := q0.2.2
  obtain ⟨-, -, ⟨-, p2, -⟩, -, -, -, ⟨-, t2, -⟩, -⟩ := q
  rw [← fq_eq]
  unfold F_X11_count
  rw [f_mkF, w_sw]
  simp only [f_mkF, w_sI, w_sR, w_sL, w_sC, w_sk, w_sbr, w_sco, w_rV, w_rI, w_rR, w_rL, w_dI, w_sO, w_sq, w_si, w_pI, w_pZ, w_pR, w_pU, w_qI, w_qB, w_qZ, w_qU, w_qR, w_kV, q_icst, q_lcst, q_xR, q_ldI, q_ldR, q_ldL, q_bn, q_un, q_dv, q_fI, q_fR, q_aI, q_aR, q_aN, q_tn, q_cmp, q_cmz, q_cnt, q_ctt, q_cand, q_cor, q_vn, q_vI, q_vR, q_vL, q_kI, q_kR, q_kL, q_ckI, envN, argE, List.flatMap_cons, List.flatMap_nil, Value.category, junk, oadd, osub, omul, oand, oor, oxor, odiv, orem, oshl, oshr, oushr, omax, omin]
  refine ⟨by simp, w, by simp, ?_⟩
  rcases i4 w with (rfl | rfl | rfl | rfl) | hw
  · simp; simp only [f_mkF, w_sI, w_sR, w_sL, w_sC, w_sk, w_sbr, w_sco, w_rV, w_rI, w_rR, w_rL, w_dI, w_sO, w_sq, w_si, w_pI, w_pZ, w_pR, w_pU, w_qI, w_qB, w_qZ, w_qU, w_qR, w_kV, q_icst, q_lcst, q_xR, q_ldI, q_ldR, q_ldL, q_bn, q_un, q_dv, q_fI, q_fR, q_aI, q_aR, q_aN, q_tn, q_cmp, q_cmz, q_cnt, q_ctt, q_cand, q_cor, q_vn, q_vI, q_vR, q_vL, q_kI, q_kR, q_kL, q_ckI, envN, argE, List.flatMap_cons, List.flatMap_nil, Value.category, junk, oadd, osub, omul, oand, oor, oxor, odiv, orem, oshl, oshr, oushr, omax, omin]; simp [rk_i, rk_b, rk_o, st1, kill, Value.category, rcv, nog, hn, ly166, cntS]
  · simp; simp only [f_mkF, w_sI, w_sR, w_sL, w_sC, w_sk, w_sbr, w_sco, w_rV, w_rI, w_rR, w_rL, w_dI, w_sO, w_sq, w_si, w_pI, w_pZ, w_pR, w_pU, w_qI, w_qB, w_qZ, w_qU, w_qR, w_kV, q_icst, q_lcst, q_xR, q_ldI, q_ldR, q_ldL, q_bn, q_un, q_dv, q_fI, q_fR, q_aI, q_aR, q_aN, q_tn, q_cmp, q_cmz, q_cnt, q_ctt, q_cand, q_cor, q_vn, q_vI, q_vR, q_vL, q_kI, q_kR, q_kL, q_ckI, envN, argE, List.flatMap_cons, List.flatMap_nil, Value.category, junk, oadd, osub, omul, oand, oor, oxor, odiv, orem, oshl, oshr, oushr, omax, omin]; simp [rk_i, rk_b, rk_o, st1, kill, Value.category, rcv, nog, hn, ly166, cntS]
  · simp; simp only [f_mkF, w_sI, w_sR, w_sL, w_sC, w_sk, w_sbr, w_sco, w_rV, w_rI, w_rR, w_rL, w_dI, w_sO, w_sq, w_si, w_pI, w_pZ, w_pR, w_pU, w_qI, w_qB, w_qZ, w_qU, w_qR, w_kV, q_icst, q_lcst, q_xR, q_ldI, q_ldR, q_ldL, q_bn, q_un, q_dv, q_fI, q_fR, q_aI, q_aR, q_aN, q_tn, q_cmp, q_cmz, q_cnt, q_ctt, q_cand, q_cor, q_vn, q_vI, q_vR, q_vL, q_kI, q_kR, q_kL, q_ckI, envN, argE, List.flatMap_cons, List.flatMap_nil, Value.category, junk, oadd, osub, omul, oand, oor, oxor, odiv, orem, oshl, oshr, oushr, omax, omin]; simp [rk_i, rk_b, rk_o, st1, kill, Value.category, rcv, nog, hn, ly166, cntS]
  · simp; simp only [f_mkF, w_sI, w_sR, w_sL, w_sC, w_sk, w_sbr, w_sco, w_rV, w_rI, w_rR, w_rL, w_dI, w_sO, w_sq, w_si, w_pI, w_pZ, w_pR, w_pU, w_qI, w_qB, w_qZ, w_qU, w_qR, w_kV, q_icst, q_lcst, q_xR, q_ldI, q_ldR, q_ldL, q_bn, q_un, q_dv, q_fI, q_fR, q_aI, q_aR, q_aN, q_tn, q_cmp, q_cmz, q_cnt, q_ctt, q_cand, q_cor, q_vn, q_vI, q_vR, q_vL, q_kI, q_kR, q_kL, q_ckI, envN, argE, List.flatMap_cons, List.flatMap_nil, Value.category, junk, oadd, osub, omul, oand, oor, oxor, odiv, orem, oshl, oshr, oushr, omax, omin]; simp [rk_i, rk_b, rk_o, st1, kill, Value.category, rcv, nog, hn, ly166, cntS]
  · obtain ⟨w0, w1, w2, w3⟩ := ni4 hw
    rw [sw_out (by simp; omega)]
    simp only [f_mkF, w_sI, w_sR, w_sL, w_sC, w_sk, w_sbr, w_sco, w_rV, w_rI, w_rR, w_rL, w_dI, w_sO, w_sq, w_si, w_pI, w_pZ, w_pR, w_pU, w_qI, w_qB, w_qZ, w_qU, w_qR, w_kV, q_icst, q_lcst, q_xR, q_ldI, q_ldR, q_ldL, q_bn, q_un, q_dv, q_fI, q_fR, q_aI, q_aR, q_aN, q_tn, q_cmp, q_cmz, q_cnt, q_ctt, q_cand, q_cor, q_vn, q_vI, q_vR, q_vL, q_kI, q_kR, q_kL, q_ckI, envN, argE, List.flatMap_cons, List.flatMap_nil, Value.category, junk, oadd, osub, omul, oand, oor, oxor, odiv, orem, oshl, oshr, oushr, omax, omin]
    have hN := nI_toI t2.1
    have hN2 := clampI t2.1
    have hP := nI_toI p2.1
    have hP2 := clampI p2.1
    generalize (h.2.1 166 2).toNatClampNeg = N at *
    generalize (h.2.1 166 1).toNatClampNeg = P at *
    have hN3 : N ≤ 4 := by omega
    have hP3 : P ≤ 12 := by omega
    rcases i43 w with ⟨k, hk, rfl⟩ | hw2
    · have cs : cntS h (nI k) = if 10 ≤ k ∧ k < 10 + N then h.2.1 172 (k - 10) else if 20 ≤ k ∧ k < 26 then h.2.1 190 (k - 20) else if 30 ≤ k ∧ k < 30 + P then h.2.1 168 (k - 30) else -1 := by
        unfold cntS
        rw [if_neg w0, if_neg w1, if_neg w2, if_neg w3, nI_toInt (by omega), hN, hP, nI_toInt (by omega), nI_toInt (by omega), show ((k : Int) - 10).toNat = k - 10 by omega, show ((k : Int) - 20).toNat = k - 20 by omega, show ((k : Int) - 30).toNat = k - 30 by omega]
        grind
      rw [cs]
      by_cases c1 : k < 10
      · simp (disch := first | omega | simp) [rk_i, rk_b, rk_o, st1, kill, Value.category, rcv, nog, hn, ly166, fq_of (e_m_in _ _ _ _), b2_0, k_9, k_10, k_20, k_25, k_30, k_29, hN, hP, inI_b, nI_clamp, nI_ltI, nI_leI, nI_eq, nI_9, nI_6, nI_22, nI_12, nI_180, nI_add, nI_1, nI_subc, ly172, ly190, ly168, hm 8, hm 35, hm 4, mp]
        grind
      · by_cases c2 : k < 20
        · simp (disch := first | omega | simp) [rk_i, rk_b, rk_o, st1, kill, Value.category, rcv, nog, hn, ly166, fq_of (e_m_in _ _ _ _), b2_0, k_9, k_10, k_20, k_25, k_30, k_29, hN, hP, inI_b, nI_clamp, nI_ltI, nI_leI, nI_eq, nI_9, nI_6, nI_22, nI_12, nI_180, nI_add, nI_1, nI_subc, ly172, ly190, ly168, hm 8, hm 35, hm 4, mp]
          grind
        · by_cases c3 : k < 30
          · simp (disch := first | omega | simp) [rk_i, rk_b, rk_o, st1, kill, Value.category, rcv, nog, hn, ly166, fq_of (e_m_in _ _ _ _), b2_0, k_9, k_10, k_20, k_25, k_30, k_29, hN, hP, inI_b, nI_clamp, nI_ltI, nI_leI, nI_eq, nI_9, nI_6, nI_22, nI_12, nI_180, nI_add, nI_1, nI_subc, ly172, ly190, ly168, hm 8, hm 35, hm 4, mp]
            grind
          · simp (disch := first | omega | simp) [rk_i, rk_b, rk_o, st1, kill, Value.category, rcv, nog, hn, ly166, fq_of (e_m_in _ _ _ _), b2_0, k_9, k_10, k_20, k_25, k_30, k_29, hN, hP, inI_b, nI_clamp, nI_ltI, nI_leI, nI_eq, nI_9, nI_6, nI_22, nI_12, nI_180, nI_add, nI_1, nI_subc, ly172, ly190, ly168, hm 8, hm 35, hm 4, mp]
            grind
    · have cs : cntS h w = -1 := by
        unfold cntS
        rw [if_neg w0, if_neg w1, if_neg w2, if_neg w3, if_neg (by omega), if_neg (by omega), if_neg (by omega)]
      rw [cs]
      have e1 : ∀ A B : Nat, A < 43 → B < 43 → ¬ (nI A ≤ w ∧ w ≤ nI B) := by
        intro A B h1 h2 h3
        rw [Int32.le_iff_toInt_le, Int32.le_iff_toInt_le, nI_toInt (by omega), nI_toInt (by omega)] at h3
        omega
      have f1 := e1 10 (9 + N) (by omega) (by omega)
      have f2 := e1 20 25 (by omega) (by omega)
      have f3 := e1 30 (29 + P) (by omega) (by omega)
      simp [rk_i, rk_b, rk_o, st1, kill, Value.category, rcv, nog, hn, ly166, fq_of (e_m_in _ _ _ _), b2_0, k_9, k_10, k_20, k_25, k_30, k_29, hN, hP, nI_add]
      grind
