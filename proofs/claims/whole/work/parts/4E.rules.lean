/-! when, rules -/
theorem g_when : AG (INV LWc) F_X10_when F_X11_when 4 := by
  intro n h vs hl hn5 q
  match vs, hl with
  | [a, b, c, d], _ =>
    have hn := q.1.1
    by_cases hc : (0 ≤ a ∧ a ≤ 5) ∧ ((0 ≤ b ∧ b < h.2.1 166 2) ∧ 0 ≤ c ∧ c < h.2.1 172 b.toNatClampNeg) ∧ (0 ≤ d ∧ d ≤ 1)
    · obtain ⟨f, hf, rfl⟩ := land_num hc.1
      obtain ⟨t, i, m0, ht, rfl, rfl, hi, hm0, e72o⟩ := pa_num q hc.2.1
      obtain ⟨w, ra, y, m, e72, rfl, hno, -⟩ := wd_of q hf ht hc.2.1.1.2
      have hi' : i < W_n w := by
        rw [e72o] at e72
        have := m.wv.1
        rw [nI_eq (by omega) (by omega)] at e72
        omega
      have n20 := m.wv.1
      have hlt : nI i < h.2.1 172 t := by rw [e72, nI_ltI (by omega) (by omega)]; exact hi'
      have i20 : i < 20 := by omega
      have i22 : i < 22 := by omega
      have X : fq F_X10_when [.ref 0, .int (nI (W_f w)), .int (nI t), .int (nI i), .int d] h fun r h' => r = some (.int (if d = 0 then tmi w 0 (lows w) i else b2 (tlt w 0 (lows w) i ≠ own w (stt w 0 (lows w) i) i))) ∧ Fj h h' ∧ IC (20 * n + 1) h' := by
        unfold F_X10_when
        refine f_mkE _ rfl (by simp [argE, Value.category]) ?_
        refine w_sq.mpr ((w_siF (by simp only [f_mkF, w_sI, w_sR, w_sL, w_sC, w_sk, w_sbr, w_sco, w_rV, w_rI, w_rR, w_rL, w_dI, w_sO, w_sq, w_si, w_pI, w_pZ, w_pR, w_pU, w_qI, w_qB, w_qZ, w_qU, w_qR, w_kV, q_icst, q_lcst, q_xR, q_ldI, q_ldR, q_ldL, q_bn, q_un, q_dv, q_fI, q_fR, q_aI, q_aR, q_aN, q_tn, q_cmp, q_cmz, q_cnt, q_ctt, q_cand, q_cor, q_vn, q_vI, q_vR, q_vL, q_kI, q_kR, q_kL, q_ckI, envN, argE, List.flatMap_cons, List.flatMap_nil, Value.category, junk, oadd, osub, omul, oand, oor, oxor, odiv, orem, oshl, oshr, oushr, omax, omin]; simp (disch := first | omega | simp) [rk_i, rk_b, rk_o, st1, kill, Value.category, rcv, nog, inI_b, nI_clamp, nI_ltI, nI_leI, nI_eq, nI_9, nI_6, nI_22, nI_12, nI_180, nI_add, nI_1, hn, ly0, fq_of (e_x_isLand _ _), fq_of (i_x_isPassing q _ _), fq_of (e_x_isWithin _ _ _ _), b2_0, hc, hlt, zne, zeq])).mpr (w_sk2.mpr ?_))
        refine w_fz fun B hB C hC => ?_
        simp only [f_mkF, w_sI, w_sR, w_sL, w_sC, w_sk, w_sbr, w_sco, w_rV, w_rI, w_rR, w_rL, w_dI, w_sO, w_sq, w_si, w_pI, w_pZ, w_pR, w_pU, w_qI, w_qB, w_qZ, w_qU, w_qR, w_kV, q_icst, q_lcst, q_xR, q_ldI, q_ldR, q_ldL, q_bn, q_un, q_dv, q_fI, q_fR, q_aI, q_aR, q_aN, q_tn, q_cmp, q_cmz, q_cnt, q_ctt, q_cand, q_cor, q_vn, q_vI, q_vR, q_vL, q_kI, q_kR, q_kL, q_ckI, envN, argE, List.flatMap_cons, List.flatMap_nil, Value.category, junk, oadd, osub, omul, oand, oor, oxor, odiv, orem, oshl, oshr, oushr, omax, omin]
        simp (disch := first | omega | simp) [rk_i, rk_b, rk_o, st1, kill, Value.category, rcv, nog, inI_b, nI_clamp, nI_ltI, nI_leI, nI_eq, nI_9, nI_6, nI_22, nI_12, nI_180, nI_add, nI_1, hn, ly0]
        refine fq_mono (x_judge y (by omega) (inv_ic q) ht rfl (by rw [q.2.1.1, hno])) ?_
        rintro r h1 ⟨rfl, fj, ic, cx, -, hX, -⟩
        simp
        subst hB hC
        have hn1 := cx.1.1
        have p8 : h1.2.2 0 8 = some 147 := cx.1.2.1.at 8 rfl
        have p6 : h1.2.2 147 6 = some 153 := cx.1.2.1.at 69 rfl
        have p7 : h1.2.2 147 7 = some 154 := cx.1.2.1.at 70 rfl
        simp only [f_mkF, w_sI, w_sR, w_sL, w_sC, w_sk, w_sbr, w_sco, w_rV, w_rI, w_rR, w_rL, w_dI, w_sO, w_sq, w_si, w_pI, w_pZ, w_pR, w_pU, w_qI, w_qB, w_qZ, w_qU, w_qR, w_kV, q_icst, q_lcst, q_xR, q_ldI, q_ldR, q_ldL, q_bn, q_un, q_dv, q_fI, q_fR, q_aI, q_aR, q_aN, q_tn, q_cmp, q_cmz, q_cnt, q_ctt, q_cand, q_cor, q_vn, q_vI, q_vR, q_vL, q_kI, q_kR, q_kL, q_ckI, envN, argE, List.flatMap_cons, List.flatMap_nil, Value.category, junk, oadd, osub, omul, oand, oor, oxor, odiv, orem, oshl, oshr, oushr, omax, omin]
        by_cases hd : d = 0
        · simp (disch := first | omega | simp) [rk_i, rk_b, rk_o, st1, kill, Value.category, rcv, nog, inI_b, nI_clamp, nI_ltI, nI_leI, nI_eq, nI_9, nI_6, nI_22, nI_12, nI_180, nI_add, nI_1, hn1, ly0, ly147, ly153, p8, p6, i20, (hX.2 i hi').2.1, fj, ic, hd]
        · simp (disch := first | omega | simp) [rk_i, rk_b, rk_o, st1, kill, Value.category, rcv, nog, inI_b, nI_clamp, nI_ltI, nI_leI, nI_eq, nI_9, nI_6, nI_22, nI_12, nI_180, nI_add, nI_1, hn1, ly0, ly147, ly154, p8, p7, i20, (hX.2 i hi').2.2, fj, ic, hd]
      obtain ⟨r, h1, e1, rfl, fj, ic⟩ := X
      have m1 := m.fj fj
      have hn1 := m1.1.1
      have e72' : h1.2.1 172 t = nI (W_n w) := (fj.2.2 172 t (by unfold SJ SX; omega)).trans e72
      have e2' : h1.2.1 166 2 = h.2.1 166 2 := fj.2.2 166 2 (by unfold SJ SX; omega)
      have e3' : ∀ k, h1.2.1 172 k = h.2.1 172 k := fun k => fj.2.2 172 k (by unfold SJ SX; omega)
      have h24 : (h1.2.1 166 2).toInt ≤ 4 := by rw [e2']; exact q.2.2.2.2.2.2.1.2.1.2
      have Y : fq F_X11_when [.ref 166, .int (nI (W_f w)), .int (nI t), .int (nI i), .int d] h1 fun r h' => r = some (.int (if d = 0 then tmi w 0 (lows w) i else b2 (tlt w 0 (lows w) i ≠ own w (stt w 0 (lows w) i) i))) ∧ Fr SN h1 h' := by
        unfold F_X11_when
        refine f_mkE _ rfl (by simp [argE, Value.category]) ?_
        refine w_sq.mpr ((w_siF (by simp only [f_mkF, w_sI, w_sR, w_sL, w_sC, w_sk, w_sbr, w_sco, w_rV, w_rI, w_rR, w_rL, w_dI, w_sO, w_sq, w_si, w_pI, w_pZ, w_pR, w_pU, w_qI, w_qB, w_qZ, w_qU, w_qR, w_kV, q_icst, q_lcst, q_xR, q_ldI, q_ldR, q_ldL, q_bn, q_un, q_dv, q_fI, q_fR, q_aI, q_aR, q_aN, q_tn, q_cmp, q_cmz, q_cnt, q_ctt, q_cand, q_cor, q_vn, q_vI, q_vR, q_vL, q_kI, q_kR, q_kL, q_ckI, envN, argE, List.flatMap_cons, List.flatMap_nil, Value.category, junk, oadd, osub, omul, oand, oor, oxor, odiv, orem, oshl, oshr, oushr, omax, omin]; simp (disch := first | omega | simp) [rk_i, rk_b, rk_o, st1, kill, Value.category, rcv, nog, inI_b, nI_clamp, nI_ltI, nI_leI, nI_eq, nI_9, nI_6, nI_22, nI_12, nI_180, nI_add, nI_1, hn1, ly166, fq_of (e_m_isLand _ _), fq_of (e_m_isPassing m1.1 _ _ h24), fq_of (e_m_in _ _ _ _), b2_0, e2', e3', hc, hlt, zne, zeq])).mpr (w_sk2.mpr ?_))
        refine w_fz fun B hB C hC => ?_
        simp only [f_mkF, w_sI, w_sR, w_sL, w_sC, w_sk, w_sbr, w_sco, w_rV, w_rI, w_rR, w_rL, w_dI, w_sO, w_sq, w_si, w_pI, w_pZ, w_pR, w_pU, w_qI, w_qB, w_qZ, w_qU, w_qR, w_kV, q_icst, q_lcst, q_xR, q_ldI, q_ldR, q_ldL, q_bn, q_un, q_dv, q_fI, q_fR, q_aI, q_aR, q_aN, q_tn, q_cmp, q_cmz, q_cnt, q_ctt, q_cand, q_cor, q_vn, q_vI, q_vR, q_vL, q_kI, q_kR, q_kL, q_ckI, envN, argE, List.flatMap_cons, List.flatMap_nil, Value.category, junk, oadd, osub, omul, oand, oor, oxor, odiv, orem, oshl, oshr, oushr, omax, omin]
        simp (disch := first | omega | simp) [rk_i, rk_b, rk_o, st1, kill, Value.category, rcv, nog, inI_b, nI_clamp, nI_ltI, nI_leI, nI_eq, nI_9, nI_6, nI_22, nI_12, nI_180, nI_add, nI_1, hn1, ly166]
        refine fq_mono (m_judges m1 e72') ?_
        rintro r h2 ⟨rfl, f2, hR, e51, -⟩
        simp
        subst hB hC
        have hn2 : h2.1 = 212 := f2.1.trans hn1
        have hm2 : ∀ k, h2.2.2 166 k = mp k := fun k => by rw [f2.2.1]; exact m1.1.2.2 k
        simp only [f_mkF, w_sI, w_sR, w_sL, w_sC, w_sk, w_sbr, w_sco, w_rV, w_rI, w_rR, w_rL, w_dI, w_sO, w_sq, w_si, w_pI, w_pZ, w_pR, w_pU, w_qI, w_qB, w_qZ, w_qU, w_qR, w_kV, q_icst, q_lcst, q_xR, q_ldI, q_ldR, q_ldL, q_bn, q_un, q_dv, q_fI, q_fR, q_aI, q_aR, q_aN, q_tn, q_cmp, q_cmz, q_cnt, q_ctt, q_cand, q_cor, q_vn, q_vI, q_vR, q_vL, q_kI, q_kR, q_kL, q_ckI, envN, argE, List.flatMap_cons, List.flatMap_nil, Value.category, junk, oadd, osub, omul, oand, oor, oxor, odiv, orem, oshl, oshr, oushr, omax, omin]
        by_cases hd : d = 0
        · simp (disch := first | omega | simp) [rk_i, rk_b, rk_o, st1, kill, Value.category, rcv, nog, inI_b, nI_clamp, nI_ltI, nI_leI, nI_eq, nI_9, nI_6, nI_22, nI_12, nI_180, nI_add, nI_1, hn2, ly166, ly202, hm2, mp, i22, (hR i hi').2.2.1, f2, hd]
        · by_cases hz : tlt w 0 (lows w) i = own w (stt w 0 (lows w) i) i
          · simp (disch := first | omega | simp) [rk_i, rk_b, rk_o, st1, kill, Value.category, rcv, nog, inI_b, nI_clamp, nI_ltI, nI_leI, nI_eq, nI_9, nI_6, nI_22, nI_12, nI_180, nI_add, nI_1, hn2, ly166, ly203, hm2, mp, i22, (hR i hi').2.2.2.1, f2, hd, b2, hz]
          · simp (disch := first | omega | simp) [rk_i, rk_b, rk_o, st1, kill, Value.category, rcv, nog, inI_b, nI_clamp, nI_ltI, nI_leI, nI_eq, nI_9, nI_6, nI_22, nI_12, nI_180, nI_add, nI_1, hn2, ly166, ly203, hm2, mp, i22, (hR i hi').2.2.2.1, f2, hd, b2, hz]
      obtain ⟨r, h2, e2, rfl, f2⟩ := Y
      exact ⟨_, h1, h2, e1, hn1, e2, inv_j q fj f2 SN_ok (by omega) ic⟩
    · refine ⟨-1, h, h, ?_, hn, ?_, INV_up q⟩
      · rw [← fq_eq]
        unfold F_X10_when
        refine f_mkE _ rfl (by simp [argE, Value.category]) ?_
        refine w_sq.mpr ((w_siT ?_).mpr ?_)
        · simp only [f_mkF, w_sI, w_sR, w_sL, w_sC, w_sk, w_sbr, w_sco, w_rV, w_rI, w_rR, w_rL, w_dI, w_sO, w_sq, w_si, w_pI, w_pZ, w_pR, w_pU, w_qI, w_qB, w_qZ, w_qU, w_qR, w_kV, q_icst, q_lcst, q_xR, q_ldI, q_ldR, q_ldL, q_bn, q_un, q_dv, q_fI, q_fR, q_aI, q_aR, q_aN, q_tn, q_cmp, q_cmz, q_cnt, q_ctt, q_cand, q_cor, q_vn, q_vI, q_vR, q_vL, q_kI, q_kR, q_kL, q_ckI, envN, argE, List.flatMap_cons, List.flatMap_nil, Value.category, junk, oadd, osub, omul, oand, oor, oxor, odiv, orem, oshl, oshr, oushr, omax, omin]
          simp [rk_i, rk_b, rk_o, st1, kill, Value.category, rcv, nog, fq_of (e_x_isLand _ _), fq_of (i_x_isPassing q _ _), fq_of (e_x_isWithin _ _ _ _), b2_0, hn, ly0, zne, zeq]
          grind
        · simp only [f_mkF, w_sI, w_sR, w_sL, w_sC, w_sk, w_sbr, w_sco, w_rV, w_rI, w_rR, w_rL, w_dI, w_sO, w_sq, w_si, w_pI, w_pZ, w_pR, w_pU, w_qI, w_qB, w_qZ, w_qU, w_qR, w_kV, q_icst, q_lcst, q_xR, q_ldI, q_ldR, q_ldL, q_bn, q_un, q_dv, q_fI, q_fR, q_aI, q_aR, q_aN, q_tn, q_cmp, q_cmz, q_cnt, q_ctt, q_cand, q_cor, q_vn, q_vI, q_vR, q_vL, q_kI, q_kR, q_kL, q_ckI, envN, argE, List.flatMap_cons, List.flatMap_nil, Value.category, junk, oadd, osub, omul, oand, oor, oxor, odiv, orem, oshl, oshr, oushr, omax, omin]; simp [rk_i, rk_b, rk_o, st1, kill, Value.category, rcv, nog]
      · rw [← fq_eq]
        unfold F_X11_when
        refine f_mkE _ rfl (by simp [argE, Value.category]) ?_
        refine w_sq.mpr ((w_siT ?_).mpr ?_)
        · simp only [f_mkF, w_sI, w_sR, w_sL, w_sC, w_sk, w_sbr, w_sco, w_rV, w_rI, w_rR, w_rL, w_dI, w_sO, w_sq, w_si, w_pI, w_pZ, w_pR, w_pU, w_qI, w_qB, w_qZ, w_qU, w_qR, w_kV, q_icst, q_lcst, q_xR, q_ldI, q_ldR, q_ldL, q_bn, q_un, q_dv, q_fI, q_fR, q_aI, q_aR, q_aN, q_tn, q_cmp, q_cmz, q_cnt, q_ctt, q_cand, q_cor, q_vn, q_vI, q_vR, q_vL, q_kI, q_kR, q_kL, q_ckI, envN, argE, List.flatMap_cons, List.flatMap_nil, Value.category, junk, oadd, osub, omul, oand, oor, oxor, odiv, orem, oshl, oshr, oushr, omax, omin]
          simp [rk_i, rk_b, rk_o, st1, kill, Value.category, rcv, nog, fq_of (e_m_isLand _ _), fq_of (i_m_isPassing q _ _), fq_of (e_m_in _ _ _ _), b2_0, hn, ly166, zne, zeq]
          grind
        · simp only [f_mkF, w_sI, w_sR, w_sL, w_sC, w_sk, w_sbr, w_sco, w_rV, w_rI, w_rR, w_rL, w_dI, w_sO, w_sq, w_si, w_pI, w_pZ, w_pR, w_pU, w_qI, w_qB, w_qZ, w_qU, w_qR, w_kV, q_icst, q_lcst, q_xR, q_ldI, q_ldR, q_ldL, q_bn, q_un, q_dv, q_fI, q_fR, q_aI, q_aR, q_aN, q_tn, q_cmp, q_cmz, q_cnt, q_ctt, q_cand, q_cor, q_vn, q_vI, q_vR, q_vL, q_kI, q_kR, q_kL, q_ckI, envN, argE, List.flatMap_cons, List.flatMap_nil, Value.category, junk, oadd, osub, omul, oand, oor, oxor, odiv, orem, oshl, oshr, oushr, omax, omin]; simp [rk_i, rk_b, rk_o, st1, kill, Value.category, rcv, nog]
theorem own_ok {w : Wd} (hw : WV w) {s i : Nat} (hs : s ≤ i) (hi : i ≤ W_n w) : 0 ≤ (own w s i).toInt ∧ (own w s i).toInt < 12 := by
  rw [own_l]
  refine frm_ok hw ?_
  unfold lft
  split <;> omega
theorem g_rules : AG (INV LWc) F_X10_rules F_X11_rules 4 := by
  intro n h vs hl hn5 q
  match vs, hl with
  | [a, b, c, d], _ =>
    have hn := q.1.1
    by_cases hc : (0 ≤ a ∧ a ≤ 5) ∧ ((0 ≤ b ∧ b < h.2.1 166 2) ∧ 0 ≤ c ∧ c < h.2.1 172 b.toNatClampNeg) ∧ (0 ≤ d ∧ d ≤ 1)
    · obtain ⟨f, hf, rfl⟩ := land_num hc.1
      obtain ⟨t, i, m0, ht, rfl, rfl, hi, hm0, e72o⟩ := pa_num q hc.2.1
      obtain ⟨w, ra, y, m, e72, rfl, hno, -⟩ := wd_of q hf ht hc.2.1.1.2
      have hi' : i < W_n w := by
        rw [e72o] at e72
        have := m.wv.1
        rw [nI_eq (by omega) (by omega)] at e72
        omega
      have n20 := m.wv.1
      have hlt : nI i < h.2.1 172 t := by rw [e72, nI_ltI (by omega) (by omega)]; exact hi'
      have i20 : i < 20 := by omega
      have nb := stt_nb w 0 (lows w) i
      have oo := own_ok m.wv nb.1 (by omega : i ≤ W_n w)
      have ot : 0 ≤ (tlt w 0 (lows w) i).toInt ∧ (tlt w 0 (lows w) i).toInt < 12 := own_ok m.wv (nb.h 0 (lows w i)).1 (by omega : i + 1 ≤ W_n w)
      have k8 : (8 : Int32) = nI 8 := rfl
      have i22 : i < 22 := by omega
      have X : fq F_X10_rules [.ref 0, .int (nI (W_f w)), .int (nI t), .int (nI i), .int d] h fun r h' => r = some (.int (if d = 1 then ofR (rul w i 8 (tlt w 0 (lows w) i)) else ofR (rul w i (kd w i) (own w (stt w 0 (lows w) i) i)))) ∧ Fj h h' ∧ IC (20 * n + 1) h' := by
        unfold F_X10_rules
        refine f_mkE _ rfl (by simp [argE, Value.category]) ?_
        refine w_sq.mpr ((w_siF (by simp only [f_mkF, w_sI, w_sR, w_sL, w_sC, w_sk, w_sbr, w_sco, w_rV, w_rI, w_rR, w_rL, w_dI, w_sO, w_sq, w_si, w_pI, w_pZ, w_pR, w_pU, w_qI, w_qB, w_qZ, w_qU, w_qR, w_kV, q_icst, q_lcst, q_xR, q_ldI, q_ldR, q_ldL, q_bn, q_un, q_dv, q_fI, q_fR, q_aI, q_aR, q_aN, q_tn, q_cmp, q_cmz, q_cnt, q_ctt, q_cand, q_cor, q_vn, q_vI, q_vR, q_vL, q_kI, q_kR, q_kL, q_ckI, envN, argE, List.flatMap_cons, List.flatMap_nil, Value.category, junk, oadd, osub, omul, oand, oor, oxor, odiv, orem, oshl, oshr, oushr, omax, omin]; simp (disch := first | omega | simp) [rk_i, rk_b, rk_o, st1, kill, Value.category, rcv, nog, inI_b, nI_clamp, nI_ltI, nI_leI, nI_eq, nI_9, nI_6, nI_22, nI_12, nI_180, nI_add, nI_1, hn, ly0, fq_of (e_x_isLand _ _), fq_of (i_x_isPassing q _ _), fq_of (e_x_isWithin _ _ _ _), b2_0, hc, hlt, zne, zeq])).mpr (w_sk2.mpr ?_))
        refine w_fz fun B hB C hC => ?_
        simp only [f_mkF, w_sI, w_sR, w_sL, w_sC, w_sk, w_sbr, w_sco, w_rV, w_rI, w_rR, w_rL, w_dI, w_sO, w_sq, w_si, w_pI, w_pZ, w_pR, w_pU, w_qI, w_qB, w_qZ, w_qU, w_qR, w_kV, q_icst, q_lcst, q_xR, q_ldI, q_ldR, q_ldL, q_bn, q_un, q_dv, q_fI, q_fR, q_aI, q_aR, q_aN, q_tn, q_cmp, q_cmz, q_cnt, q_ctt, q_cand, q_cor, q_vn, q_vI, q_vR, q_vL, q_kI, q_kR, q_kL, q_ckI, envN, argE, List.flatMap_cons, List.flatMap_nil, Value.category, junk, oadd, osub, omul, oand, oor, oxor, odiv, orem, oshl, oshr, oushr, omax, omin]
        simp (disch := first | omega | simp) [rk_i, rk_b, rk_o, st1, kill, Value.category, rcv, nog, inI_b, nI_clamp, nI_ltI, nI_leI, nI_eq, nI_9, nI_6, nI_22, nI_12, nI_180, nI_add, nI_1, hn, ly0]
        refine fq_mono (x_judge y (by omega) (inv_ic q) ht rfl (by rw [q.2.1.1, hno])) ?_
        rintro r h1 ⟨rfl, fj, ic, cx, -, hX, -⟩
        simp
        subst hB hC
        have hn1 := cx.1.1
        have p8 : h1.2.2 0 8 = some 147 := cx.1.2.1.at 8 rfl
        have p5 : h1.2.2 147 5 = some 152 := cx.1.2.1.at 68 rfl
        by_cases hd : d = 1
        · refine w_sq.mpr ((w_siT (by simp only [f_mkF, w_sI, w_sR, w_sL, w_sC, w_sk, w_sbr, w_sco, w_rV, w_rI, w_rR, w_rL, w_dI, w_sO, w_sq, w_si, w_pI, w_pZ, w_pR, w_pU, w_qI, w_qB, w_qZ, w_qU, w_qR, w_kV, q_icst, q_lcst, q_xR, q_ldI, q_ldR, q_ldL, q_bn, q_un, q_dv, q_fI, q_fR, q_aI, q_aR, q_aN, q_tn, q_cmp, q_cmz, q_cnt, q_ctt, q_cand, q_cor, q_vn, q_vI, q_vR, q_vL, q_kI, q_kR, q_kL, q_ckI, envN, argE, List.flatMap_cons, List.flatMap_nil, Value.category, junk, oadd, osub, omul, oand, oor, oxor, odiv, orem, oshl, oshr, oushr, omax, omin]; simp [rk_i, rk_b, rk_o, st1, kill, Value.category, rcv, nog, hd])).mpr ?_)
          simp only [f_mkF, w_sI, w_sR, w_sL, w_sC, w_sk, w_sbr, w_sco, w_rV, w_rI, w_rR, w_rL, w_dI, w_sO, w_sq, w_si, w_pI, w_pZ, w_pR, w_pU, w_qI, w_qB, w_qZ, w_qU, w_qR, w_kV, q_icst, q_lcst, q_xR, q_ldI, q_ldR, q_ldL, q_bn, q_un, q_dv, q_fI, q_fR, q_aI, q_aR, q_aN, q_tn, q_cmp, q_cmz, q_cnt, q_ctt, q_cand, q_cor, q_vn, q_vI, q_vR, q_vL, q_kI, q_kR, q_kL, q_ckI, envN, argE, List.flatMap_cons, List.flatMap_nil, Value.category, junk, oadd, osub, omul, oand, oor, oxor, odiv, orem, oshl, oshr, oushr, omax, omin]
          simp (disch := first | omega | simp) [rk_i, rk_b, rk_o, st1, kill, Value.category, rcv, nog, inI_b, nI_clamp, nI_ltI, nI_leI, nI_eq, nI_9, nI_6, nI_22, nI_12, nI_180, nI_add, nI_1, hn1, ly0, ly147, ly152, p8, p5, i20, (hX.2 i hi').1, hd, k8, fq_of (x_ruling cx hi' (by omega : 8 < 9) ot), fj, ic]
        · refine w_sq.mpr ((w_siF (by simp only [f_mkF, w_sI, w_sR, w_sL, w_sC, w_sk, w_sbr, w_sco, w_rV, w_rI, w_rR, w_rL, w_dI, w_sO, w_sq, w_si, w_pI, w_pZ, w_pR, w_pU, w_qI, w_qB, w_qZ, w_qU, w_qR, w_kV, q_icst, q_lcst, q_xR, q_ldI, q_ldR, q_ldL, q_bn, q_un, q_dv, q_fI, q_fR, q_aI, q_aR, q_aN, q_tn, q_cmp, q_cmz, q_cnt, q_ctt, q_cand, q_cor, q_vn, q_vI, q_vR, q_vL, q_kI, q_kR, q_kL, q_ckI, envN, argE, List.flatMap_cons, List.flatMap_nil, Value.category, junk, oadd, osub, omul, oand, oor, oxor, odiv, orem, oshl, oshr, oushr, omax, omin]; simp (disch := first | omega | simp) [rk_i, rk_b, rk_o, st1, kill, Value.category, rcv, nog, inI_b, nI_clamp, nI_ltI, nI_leI, nI_eq, nI_9, nI_6, nI_22, nI_12, nI_180, nI_add, nI_1, hd])).mpr (w_sk2.mpr ?_))
          obtain ⟨p1, p3, -⟩ := ptT cx.1 ht
          have p2 : h1.2.2 0 2 = some 3 := cx.1.2.1.at 2 rfl
          obtain ⟨-, a1, a2, a3, a4, a5, a6, a7⟩ := cx.hd
          obtain ⟨-, b1, b2', b3, b4⟩ := cx.row hi'
          obtain ⟨k1, k2⟩ := cx.kx hi'
          have b40 := b4 0 (by omega)
          rw [k1] at b40
          have ea := x_ahead cx (i := i) (by omega) nb.1 (hX.1 i (by omega))
          simp only [f_mkF, w_sI, w_sR, w_sL, w_sC, w_sk, w_sbr, w_sco, w_rV, w_rI, w_rR, w_rL, w_dI, w_sO, w_sq, w_si, w_pI, w_pZ, w_pR, w_pU, w_qI, w_qB, w_qZ, w_qU, w_qR, w_kV, q_icst, q_lcst, q_xR, q_ldI, q_ldR, q_ldL, q_bn, q_un, q_dv, q_fI, q_fR, q_aI, q_aR, q_aN, q_tn, q_cmp, q_cmz, q_cnt, q_ctt, q_cand, q_cor, q_vn, q_vI, q_vR, q_vL, q_kI, q_kR, q_kL, q_ckI, envN, argE, List.flatMap_cons, List.flatMap_nil, Value.category, junk, oadd, osub, omul, oand, oor, oxor, odiv, orem, oshl, oshr, oushr, omax, omin]
          simp (disch := first | omega | simp) [rk_i, rk_b, rk_o, st1, kill, Value.category, rcv, nog, inI_b, nI_clamp, nI_ltI, nI_leI, nI_eq, nI_9, nI_6, nI_22, nI_12, nI_180, nI_add, nI_1, hn1, ly0, ly3, ly147, p8, p2, p1, ht, i20, a2, a3, a4, a5, a6, b1, b2', b3, b40, fq_of ea, fq_of (x_ruling cx hi' (by omega : kd w i < 9) oo), hd, fj, ic]
      obtain ⟨r, h1, e1, rfl, fj, ic⟩ := X
      have m1 := m.fj fj
      have hn1 := m1.1.1
      have e72' : h1.2.1 172 t = nI (W_n w) := (fj.2.2 172 t (by unfold SJ SX; omega)).trans e72
      have e2' : h1.2.1 166 2 = h.2.1 166 2 := fj.2.2 166 2 (by unfold SJ SX; omega)
      have e3' : ∀ k, h1.2.1 172 k = h.2.1 172 k := fun k => fj.2.2 172 k (by unfold SJ SX; omega)
      have h24 : (h1.2.1 166 2).toInt ≤ 4 := by rw [e2']; exact q.2.2.2.2.2.2.1.2.1.2
      have Y : fq F_X11_rules [.ref 166, .int (nI (W_f w)), .int (nI t), .int (nI i), .int d] h1 fun r h' => r = some (.int (if d = 1 then ofR (rul w i 8 (tlt w 0 (lows w) i)) else ofR (rul w i (kd w i) (own w (stt w 0 (lows w) i) i)))) ∧ Fr SN h1 h' := by
        unfold F_X11_rules
        refine f_mkE _ rfl (by simp [argE, Value.category]) ?_
        refine w_sq.mpr ((w_siF (by simp only [f_mkF, w_sI, w_sR, w_sL, w_sC, w_sk, w_sbr, w_sco, w_rV, w_rI, w_rR, w_rL, w_dI, w_sO, w_sq, w_si, w_pI, w_pZ, w_pR, w_pU, w_qI, w_qB, w_qZ, w_qU, w_qR, w_kV, q_icst, q_lcst, q_xR, q_ldI, q_ldR, q_ldL, q_bn, q_un, q_dv, q_fI, q_fR, q_aI, q_aR, q_aN, q_tn, q_cmp, q_cmz, q_cnt, q_ctt, q_cand, q_cor, q_vn, q_vI, q_vR, q_vL, q_kI, q_kR, q_kL, q_ckI, envN, argE, List.flatMap_cons, List.flatMap_nil, Value.category, junk, oadd, osub, omul, oand, oor, oxor, odiv, orem, oshl, oshr, oushr, omax, omin]; simp (disch := first | omega | simp) [rk_i, rk_b, rk_o, st1, kill, Value.category, rcv, nog, inI_b, nI_clamp, nI_ltI, nI_leI, nI_eq, nI_9, nI_6, nI_22, nI_12, nI_180, nI_add, nI_1, hn1, ly166, fq_of (e_m_isLand _ _), fq_of (e_m_isPassing m1.1 _ _ h24), fq_of (e_m_in _ _ _ _), b2_0, e2', e3', hc, hlt, zne, zeq])).mpr (w_sk2.mpr ?_))
        refine w_fz fun B hB C hC => ?_
        simp only [f_mkF, w_sI, w_sR, w_sL, w_sC, w_sk, w_sbr, w_sco, w_rV, w_rI, w_rR, w_rL, w_dI, w_sO, w_sq, w_si, w_pI, w_pZ, w_pR, w_pU, w_qI, w_qB, w_qZ, w_qU, w_qR, w_kV, q_icst, q_lcst, q_xR, q_ldI, q_ldR, q_ldL, q_bn, q_un, q_dv, q_fI, q_fR, q_aI, q_aR, q_aN, q_tn, q_cmp, q_cmz, q_cnt, q_ctt, q_cand, q_cor, q_vn, q_vI, q_vR, q_vL, q_kI, q_kR, q_kL, q_ckI, envN, argE, List.flatMap_cons, List.flatMap_nil, Value.category, junk, oadd, osub, omul, oand, oor, oxor, odiv, orem, oshl, oshr, oushr, omax, omin]
        simp (disch := first | omega | simp) [rk_i, rk_b, rk_o, st1, kill, Value.category, rcv, nog, inI_b, nI_clamp, nI_ltI, nI_leI, nI_eq, nI_9, nI_6, nI_22, nI_12, nI_180, nI_add, nI_1, hn1, ly166]
        refine fq_mono (m_judges m1 e72') ?_
        rintro r h2 ⟨rfl, f2, hR, e51, -⟩
        simp
        subst hB hC
        have hn2 : h2.1 = 212 := f2.1.trans hn1
        have hm2 : ∀ k, h2.2.2 166 k = mp k := fun k => by rw [f2.2.1]; exact m1.1.2.2 k
        have q2 := m1.frn f2
        have e7 := (hR i hi').2.1
        have e3 := (hR i hi').1
        obtain ⟨r0, r1, r2, r3, r4, r5, r6⟩ := q2.row hi'
        obtain ⟨k1, k2⟩ := q2.wv.kx hi'
        rw [k1] at r1
        by_cases hd : d = 1
        · refine w_fz fun B hB C hC => ?_
          simp only [f_mkF, w_sI, w_sR, w_sL, w_sC, w_sk, w_sbr, w_sco, w_rV, w_rI, w_rR, w_rL, w_dI, w_sO, w_sq, w_si, w_pI, w_pZ, w_pR, w_pU, w_qI, w_qB, w_qZ, w_qU, w_qR, w_kV, q_icst, q_lcst, q_xR, q_ldI, q_ldR, q_ldL, q_bn, q_un, q_dv, q_fI, q_fR, q_aI, q_aR, q_aN, q_tn, q_cmp, q_cmz, q_cnt, q_ctt, q_cand, q_cor, q_vn, q_vI, q_vR, q_vL, q_kI, q_kR, q_kL, q_ckI, envN, argE, List.flatMap_cons, List.flatMap_nil, Value.category, junk, oadd, osub, omul, oand, oor, oxor, odiv, orem, oshl, oshr, oushr, omax, omin]
          simp (disch := first | omega | simp) [rk_i, rk_b, rk_o, st1, kill, Value.category, rcv, nog, inI_b, nI_clamp, nI_ltI, nI_leI, nI_eq, nI_9, nI_6, nI_22, nI_12, nI_180, nI_add, nI_1, hn2, ly166, ly201, hm2, mp, i22, e7, hd, k8]
          refine fq_mono (m_ruler q2 hi' (by omega : 8 < 9) ot) ?_
          rintro r h3 ⟨rfl, g, e50⟩
          simp [rk_i, rk_b, rk_o, st1, kill, Value.category, rcv, nog]
          subst hB hC
          have hn3 : h3.1 = 212 := g.1.trans hn2
          have g' : Fr SN h1 h3 := f2.trans (g.sub fun a k z => Or.inl (S50_SM z))
          simp only [f_mkF, w_sI, w_sR, w_sL, w_sC, w_sk, w_sbr, w_sco, w_rV, w_rI, w_rR, w_rL, w_dI, w_sO, w_sq, w_si, w_pI, w_pZ, w_pR, w_pU, w_qI, w_qB, w_qZ, w_qU, w_qR, w_kV, q_icst, q_lcst, q_xR, q_ldI, q_ldR, q_ldL, q_bn, q_un, q_dv, q_fI, q_fR, q_aI, q_aR, q_aN, q_tn, q_cmp, q_cmz, q_cnt, q_ctt, q_cand, q_cor, q_vn, q_vI, q_vR, q_vL, q_kI, q_kR, q_kL, q_ckI, envN, argE, List.flatMap_cons, List.flatMap_nil, Value.category, junk, oadd, osub, omul, oand, oor, oxor, odiv, orem, oshl, oshr, oushr, omax, omin]
          unfold askd
          cases hr : rul w i 8 (tlt w 0 (lows w) i) with
          | none => simp [rk_i, rk_b, rk_o, st1, kill, Value.category, rcv, nog, hn3, ly166, e50, hr, b2, ofR, g', hd]
          | some x => simp [rk_i, rk_b, rk_o, st1, kill, Value.category, rcv, nog, hn3, ly166, e50, hr, b2, ofR, g', hd]
        · refine w_fz fun B hB C hC => ?_
          simp only [f_mkF, w_sI, w_sR, w_sL, w_sC, w_sk, w_sbr, w_sco, w_rV, w_rI, w_rR, w_rL, w_dI, w_sO, w_sq, w_si, w_pI, w_pZ, w_pR, w_pU, w_qI, w_qB, w_qZ, w_qU, w_qR, w_kV, q_icst, q_lcst, q_xR, q_ldI, q_ldR, q_ldL, q_bn, q_un, q_dv, q_fI, q_fR, q_aI, q_aR, q_aN, q_tn, q_cmp, q_cmz, q_cnt, q_ctt, q_cand, q_cor, q_vn, q_vI, q_vR, q_vL, q_kI, q_kR, q_kL, q_ckI, envN, argE, List.flatMap_cons, List.flatMap_nil, Value.category, junk, oadd, osub, omul, oand, oor, oxor, odiv, orem, oshl, oshr, oushr, omax, omin]
          simp (disch := first | omega | simp) [rk_i, rk_b, rk_o, st1, kill, Value.category, rcv, nog, inI_b, nI_clamp, nI_ltI, nI_leI, nI_eq, nI_9, nI_6, nI_22, nI_12, nI_180, nI_add, nI_1, hn2, ly166, ly173, ly197, hm2, mp, i22, e3, r0, r1, hd]
          refine fq_mono (m_ruler q2 hi' (by omega : kd w i < 9) oo) ?_
          rintro r h3 ⟨rfl, g, e50⟩
          simp [rk_i, rk_b, rk_o, st1, kill, Value.category, rcv, nog]
          subst hB hC
          have hn3 : h3.1 = 212 := g.1.trans hn2
          have g' : Fr SN h1 h3 := f2.trans (g.sub fun a k z => Or.inl (S50_SM z))
          simp only [f_mkF, w_sI, w_sR, w_sL, w_sC, w_sk, w_sbr, w_sco, w_rV, w_rI, w_rR, w_rL, w_dI, w_sO, w_sq, w_si, w_pI, w_pZ, w_pR, w_pU, w_qI, w_qB, w_qZ, w_qU, w_qR, w_kV, q_icst, q_lcst, q_xR, q_ldI, q_ldR, q_ldL, q_bn, q_un, q_dv, q_fI, q_fR, q_aI, q_aR, q_aN, q_tn, q_cmp, q_cmz, q_cnt, q_ctt, q_cand, q_cor, q_vn, q_vI, q_vR, q_vL, q_kI, q_kR, q_kL, q_ckI, envN, argE, List.flatMap_cons, List.flatMap_nil, Value.category, junk, oadd, osub, omul, oand, oor, oxor, odiv, orem, oshl, oshr, oushr, omax, omin]
          unfold askd
          cases hr : rul w i (kd w i) (own w (stt w 0 (lows w) i) i) with
          | none => simp [rk_i, rk_b, rk_o, st1, kill, Value.category, rcv, nog, hn3, ly166, e50, hr, b2, ofR, g', hd]
          | some x => simp [rk_i, rk_b, rk_o, st1, kill, Value.category, rcv, nog, hn3, ly166, e50, hr, b2, ofR, g', hd]
      obtain ⟨r, h2, e2, rfl, f2⟩ := Y
      exact ⟨_, h1, h2, e1, hn1, e2, inv_j q fj f2 SN_ok (by omega) ic⟩
    · refine ⟨-1, h, h, ?_, hn, ?_, INV_up q⟩
      · rw [← fq_eq]
        unfold F_X10_rules
        refine f_mkE _ rfl (by simp [argE, Value.category]) ?_
        refine w_sq.mpr ((w_siT ?_).mpr ?_)
        · simp only [f_mkF, w_sI, w_sR, w_sL, w_sC, w_sk, w_sbr, w_sco, w_rV, w_rI, w_rR, w_rL, w_dI, w_sO, w_sq, w_si, w_pI, w_pZ, w_pR, w_pU, w_qI, w_qB, w_qZ, w_qU, w_qR, w_kV, q_icst, q_lcst, q_xR, q_ldI, q_ldR, q_ldL, q_bn, q_un, q_dv, q_fI, q_fR, q_aI, q_aR, q_aN, q_tn, q_cmp, q_cmz, q_cnt, q_ctt, q_cand, q_cor, q_vn, q_vI, q_vR, q_vL, q_kI, q_kR, q_kL, q_ckI, envN, argE, List.flatMap_cons, List.flatMap_nil, Value.category, junk, oadd, osub, omul, oand, oor, oxor, odiv, orem, oshl, oshr, oushr, omax, omin]
          simp [rk_i, rk_b, rk_o, st1, kill, Value.category, rcv, nog, fq_of (e_x_isLand _ _), fq_of (i_x_isPassing q _ _), fq_of (e_x_isWithin _ _ _ _), b2_0, hn, ly0, zne, zeq]
          grind
        · simp only [f_mkF, w_sI, w_sR, w_sL, w_sC, w_sk, w_sbr, w_sco, w_rV, w_rI, w_rR, w_rL, w_dI, w_sO, w_sq, w_si, w_pI, w_pZ, w_pR, w_pU, w_qI, w_qB, w_qZ, w_qU, w_qR, w_kV, q_icst, q_lcst, q_xR, q_ldI, q_ldR, q_ldL, q_bn, q_un, q_dv, q_fI, q_fR, q_aI, q_aR, q_aN, q_tn, q_cmp, q_cmz, q_cnt, q_ctt, q_cand, q_cor, q_vn, q_vI, q_vR, q_vL, q_kI, q_kR, q_kL, q_ckI, envN, argE, List.flatMap_cons, List.flatMap_nil, Value.category, junk, oadd, osub, omul, oand, oor, oxor, odiv, orem, oshl, oshr, oushr, omax, omin]; simp [rk_i, rk_b, rk_o, st1, kill, Value.category, rcv, nog]
      · rw [← fq_eq]
        unfold F_X11_rules
        refine f_mkE _ rfl (by simp [argE, Value.category]) ?_
        refine w_sq.mpr ((w_siT ?_).mpr ?_)
        · simp only [f_mkF, w_sI, w_sR, w_sL, w_sC, w_sk, w_sbr, w_sco, w_rV, w_rI, w_rR, w_rL, w_dI, w_sO, w_sq, w_si, w_pI, w_pZ, w_pR, w_pU, w_qI, w_qB, w_qZ, w_qU, w_qR, w_kV, q_icst, q_lcst, q_xR, q_ldI, q_ldR, q_ldL, q_bn, q_un, q_dv, q_fI, q_fR, q_aI, q_aR, q_aN, q_tn, q_cmp, q_cmz, q_cnt, q_ctt, q_cand, q_cor, q_vn, q_vI, q_vR, q_vL, q_kI, q_kR, q_kL, q_ckI, envN, argE, List.flatMap_cons, List.flatMap_nil, Value.category, junk, oadd, osub, omul, oand, oor, oxor, odiv, orem, oshl, oshr, oushr, omax, omin]
          simp [rk_i, rk_b, rk_o, st1, kill, Value.category, rcv, nog, fq_of (e_m_isLand _ _), fq_of (i_m_isPassing q _ _), fq_of (e_m_in _ _ _ _), b2_0, hn, ly166, zne, zeq]
          grind
        · simp only [f_mkF, w_sI, w_sR, w_sL, w_sC, w_sk, w_sbr, w_sco, w_rV, w_rI, w_rR, w_rL, w_dI, w_sO, w_sq, w_si, w_pI, w_pZ, w_pR, w_pU, w_qI, w_qB, w_qZ, w_qU, w_qR, w_kV, q_icst, q_lcst, q_xR, q_ldI, q_ldR, q_ldL, q_bn, q_un, q_dv, q_fI, q_fR, q_aI, q_aR, q_aN, q_tn, q_cmp, q_cmz, q_cnt, q_ctt, q_cand, q_cor, q_vn, q_vI, q_vR, q_vL, q_kI, q_kR, q_kL, q_ckI, envN, argE, List.flatMap_cons, List.flatMap_nil, Value.category, junk, oadd, osub, omul, oand, oor, oxor, odiv, orem, oshl, oshr, oushr, omax, omin]; simp [rk_i, rk_b, rk_o, st1, kill, Value.category, rcv, nog]
