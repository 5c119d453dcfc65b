/-! joined, check -/
theorem m_whose {w : Wd} {t : Nat} {h : Hp} (m1 : MX w t h) (e72 : h.2.1 172 t = nI (W_n w)) (htt : nI t < h.2.1 166 2) : fq F_X11_whose [.ref 166, .int (nI (W_f w)), .int (nI t)] h fun r h' => r = some (.int (whz w 0)) ∧ Fr SN h h' := by
  have hn1 := m1.1.1
  have hf : 0 ≤ nI (W_f w) ∧ nI (W_f w) ≤ 5 := ⟨nI_0le (by have := m1.wv.2.1; omega), by show nI (W_f w) ≤ nI 5; have := m1.wv.2.1; rw [nI_leI (by omega) (by omega)]; omega⟩
  have ht0 : 0 ≤ nI t := nI_0le (by have := m1.2.1; omega)
  unfold F_X11_whose
  refine f_mkE _ rfl (by simp [argE, Value.category]) ?_
  refine w_sq.mpr ((w_siF (by simp only [f_mkF, w_sI, w_sR, w_sL, w_sC, w_sk, w_sbr, w_sco, w_rV, w_rI, w_rR, w_rL, w_dI, w_sO, w_sq, w_si, w_pI, w_pZ, w_pR, w_pU, w_qI, w_qB, w_qZ, w_qU, w_qR, w_kV, q_icst, q_lcst, q_xR, q_ldI, q_ldR, q_ldL, q_bn, q_un, q_dv, q_fI, q_fR, q_aI, q_aR, q_aN, q_tn, q_cmp, q_cmz, q_cnt, q_ctt, q_cand, q_cor, q_vn, q_vI, q_vR, q_vL, q_kI, q_kR, q_kL, q_ckI, envN, argE, List.flatMap_cons, List.flatMap_nil, Value.category, junk, oadd, osub, omul, oand, oor, oxor, odiv, orem, oshl, oshr, oushr, omax, omin]; simp (disch := first | omega | simp) [rk_i, rk_b, rk_o, st1, kill, Value.category, rcv, nog, inI_b, nI_clamp, nI_ltI, nI_leI, nI_eq, nI_9, nI_6, nI_22, nI_12, nI_180, nI_add, nI_1, hn1, ly166, fq_of (m_can hn1 _ _), b2_0, htt, hf, ht0, zne, zeq])).mpr (w_sk2.mpr ?_))
  refine w_fz fun B hB C hC => ?_
  simp only [f_mkF, w_sI, w_sR, w_sL, w_sC, w_sk, w_sbr, w_sco, w_rV, w_rI, w_rR, w_rL, w_dI, w_sO, w_sq, w_si, w_pI, w_pZ, w_pR, w_pU, w_qI, w_qB, w_qZ, w_qU, w_qR, w_kV, q_icst, q_lcst, q_xR, q_ldI, q_ldR, q_ldL, q_bn, q_un, q_dv, q_fI, q_fR, q_aI, q_aR, q_aN, q_tn, q_cmp, q_cmz, q_cnt, q_ctt, q_cand, q_cor, q_vn, q_vI, q_vR, q_vL, q_kI, q_kR, q_kL, q_ckI, envN, argE, List.flatMap_cons, List.flatMap_nil, Value.category, junk, oadd, osub, omul, oand, oor, oxor, odiv, orem, oshl, oshr, oushr, omax, omin]
  simp (disch := first | omega | simp) [rk_i, rk_b, rk_o, st1, kill, Value.category, rcv, nog, inI_b, nI_clamp, nI_ltI, nI_leI, nI_eq, nI_9, nI_6, nI_22, nI_12, nI_180, nI_add, nI_1, hn1, ly166]
  refine fq_mono (m_judges m1 e72) ?_
  rintro r h2 ⟨rfl, f2, hR, e51, -⟩
  simp
  subst hB hC
  have hn2 : h2.1 = 212 := f2.1.trans hn1
  simp only [f_mkF, w_sI, w_sR, w_sL, w_sC, w_sk, w_sbr, w_sco, w_rV, w_rI, w_rR, w_rL, w_dI, w_sO, w_sq, w_si, w_pI, w_pZ, w_pR, w_pU, w_qI, w_qB, w_qZ, w_qU, w_qR, w_kV, q_icst, q_lcst, q_xR, q_ldI, q_ldR, q_ldL, q_bn, q_un, q_dv, q_fI, q_fR, q_aI, q_aR, q_aN, q_tn, q_cmp, q_cmz, q_cnt, q_ctt, q_cand, q_cor, q_vn, q_vI, q_vR, q_vL, q_kI, q_kR, q_kL, q_ckI, envN, argE, List.flatMap_cons, List.flatMap_nil, Value.category, junk, oadd, osub, omul, oand, oor, oxor, odiv, orem, oshl, oshr, oushr, omax, omin]
  simp [rk_i, rk_b, rk_o, st1, kill, Value.category, rcv, nog, hn2, ly166, e51, f2]
theorem g_joined : AG (INV LWc) F_X10_joined F_X11_joined 4 := by
  intro n h vs hl hn5 q
  match vs, hl with
  | [a, b, c, d], _ =>
    have hn := q.1.1
    by_cases hc : (0 ≤ a ∧ a ≤ 5) ∧ (0 ≤ b ∧ b < h.2.1 166 2) ∧ (0 ≤ c ∧ c < h.2.1 166 2) ∧ b ≠ c ∧ (0 ≤ d ∧ d ≤ 2)
    · obtain ⟨f, hf, rfl⟩ := land_num hc.1
      obtain ⟨t, ht, rfl⟩ := th_num q hc.2.1.1 hc.2.1.2
      obtain ⟨u, hu, rfl⟩ := th_num q hc.2.2.1.1 hc.2.2.1.2
      have hn0 := hn
      have p2 : h.2.2 0 2 = some 3 := q.1.2.1.at 2 rfl
      obtain ⟨p1, p3, -⟩ := ptT q.1 ht
      obtain ⟨p1u, p3u, -⟩ := ptT q.1 hu
      have p4 : 28 + 22 * t < 212 := by omega
      have p4u : 28 + 22 * u < 212 := by omega
      obtain ⟨-, wt, -, -⟩ := th_fo q ht
      obtain ⟨-, wu, -, -⟩ := th_fo q hu
      have hm := q.1.2.2
      obtain ⟨g, l, F, hg4, hl4, hgt, hlt, hF, hF2⟩ : ∃ g l F, g < 4 ∧ l < 4 ∧ nI g < h.2.1 166 2 ∧ nI l < h.2.1 166 2 ∧ ((F = (1 : Int32) ∧ g = t ∧ l = u) ∨ (F = 0 ∧ g = u ∧ l = t)) ∧ F = (if h.2.1 169 t < h.2.1 169 u then 0 else 1) := by
        by_cases z : h.2.1 169 t < h.2.1 169 u
        · exact ⟨u, t, 0, hu, ht, hc.2.2.1.2, hc.2.1.2, Or.inr ⟨rfl, rfl, rfl⟩, by simp [z]⟩
        · exact ⟨t, u, 1, ht, hu, hc.2.1.2, hc.2.2.1.2, Or.inl ⟨rfl, rfl, rfl⟩, by simp [z]⟩
      obtain ⟨w1, ra1, y1, m1, e72, ef1, hno1, -⟩ := wd_of q hf hg4 hgt
      obtain ⟨w2, ra2, y2, m2, e72', ef2, hno2, -⟩ := wd_of q hf hl4 hlt
      have hfin : ∀ k, (k = 0 ∨ k ≠ 0) := fun k => Classical.em _
      have X : fq F_X10_joined [.ref 0, .int (nI f), .int (nI t), .int (nI u), .int d] h fun r h' => r = some (.int (if d = 0 then whz w1 0 else if whz w2 0 = whz w1 0 then -1 else if d = 1 then whz w2 0 else h.2.1 169 l)) ∧ Fj h h' ∧ IC (20 * n + 2) h' := by
        unfold F_X10_joined
        refine f_mkE [.ref 0, .int (nI f), .int (nI t), .int (nI u), .int d, junk, junk, junk, junk] rfl (by simp [argE, Value.category]) ?_
        refine w_sq.mpr ((w_siF (by simp only [f_mkF, w_sI, w_sR, w_sL, w_sC, w_sk, w_sbr, w_sco, w_rV, w_rI, w_rR, w_rL, w_dI, w_sO, w_sq, w_si, w_pI, w_pZ, w_pR, w_pU, w_qI, w_qB, w_qZ, w_qU, w_qR, w_kV, q_icst, q_lcst, q_xR, q_ldI, q_ldR, q_ldL, q_bn, q_un, q_dv, q_fI, q_fR, q_aI, q_aR, q_aN, q_tn, q_cmp, q_cmz, q_cnt, q_ctt, q_cand, q_cor, q_vn, q_vI, q_vR, q_vL, q_kI, q_kR, q_kL, q_ckI, envN, argE, List.flatMap_cons, List.flatMap_nil, Value.category, junk, oadd, osub, omul, oand, oor, oxor, odiv, orem, oshl, oshr, oushr, omax, omin]; simp (disch := first | omega | simp) [rk_i, rk_b, rk_o, st1, kill, Value.category, rcv, nog, inI_b, nI_clamp, nI_ltI, nI_leI, nI_eq, nI_9, nI_6, nI_22, nI_12, nI_180, nI_add, nI_1, hn, ly0, fq_of (e_x_isLand _ _), fq_of (i_x_isThing q _), fq_of (e_x_isWithin _ _ _ _), b2_0, hc, zne, zeq])).mpr (w_sk2.mpr ?_))
        refine w_sqI (E' := [.ref 0, .int (nI f), .int (nI t), .int (nI u), .int d, .int F, junk, junk, junk]) F ?_ rfl ?_
        · simp only [f_mkF, w_sI, w_sR, w_sL, w_sC, w_sk, w_sbr, w_sco, w_rV, w_rI, w_rR, w_rL, w_dI, w_sO, w_sq, w_si, w_pI, w_pZ, w_pR, w_pU, w_qI, w_qB, w_qZ, w_qU, w_qR, w_kV, q_icst, q_lcst, q_xR, q_ldI, q_ldR, q_ldL, q_bn, q_un, q_dv, q_fI, q_fR, q_aI, q_aR, q_aN, q_tn, q_cmp, q_cmz, q_cnt, q_ctt, q_cand, q_cor, q_vn, q_vI, q_vR, q_vL, q_kI, q_kR, q_kL, q_ckI, envN, argE, List.flatMap_cons, List.flatMap_nil, Value.category, junk, oadd, osub, omul, oand, oor, oxor, odiv, orem, oshl, oshr, oushr, omax, omin]
          simp (disch := first | omega | simp) [rk_i, rk_b, rk_o, st1, kill, Value.category, rcv, nog, inI_b, nI_clamp, nI_ltI, nI_leI, nI_eq, nI_9, nI_6, nI_22, nI_12, nI_180, nI_add, nI_1, hn, ly0, ly3, p2, p1, p1u, p3, p3u, p4, p4u, ht, hu, wt, wu, hF2]
          try grind
        refine w_sqI (E' := [.ref 0, .int (nI f), .int (nI t), .int (nI u), .int d, .int F, .int (nI l), junk, junk]) (nI l) ?_ rfl ?_
        · simp only [f_mkF, w_sI, w_sR, w_sL, w_sC, w_sk, w_sbr, w_sco, w_rV, w_rI, w_rR, w_rL, w_dI, w_sO, w_sq, w_si, w_pI, w_pZ, w_pR, w_pU, w_qI, w_qB, w_qZ, w_qU, w_qR, w_kV, q_icst, q_lcst, q_xR, q_ldI, q_ldR, q_ldL, q_bn, q_un, q_dv, q_fI, q_fR, q_aI, q_aR, q_aN, q_tn, q_cmp, q_cmz, q_cnt, q_ctt, q_cand, q_cor, q_vn, q_vI, q_vR, q_vL, q_kI, q_kR, q_kL, q_ckI, envN, argE, List.flatMap_cons, List.flatMap_nil, Value.category, junk, oadd, osub, omul, oand, oor, oxor, odiv, orem, oshl, oshr, oushr, omax, omin]
          rcases hF with ⟨rfl, rfl, rfl⟩ | ⟨rfl, rfl, rfl⟩ <;> simp
        refine w_fz fun B hB C hC => ?_
        have hg' : ev (tn (cnt (cmz zeq (ldI 5))) (ldI 2) (ldI 3)) [.ref 0, .int (nI f), .int (nI t), .int (nI u), .int d, .int F, .int (nI l), junk, junk] h fun x h1 => x = nI g ∧ h1 = h := by
          simp only [f_mkF, w_sI, w_sR, w_sL, w_sC, w_sk, w_sbr, w_sco, w_rV, w_rI, w_rR, w_rL, w_dI, w_sO, w_sq, w_si, w_pI, w_pZ, w_pR, w_pU, w_qI, w_qB, w_qZ, w_qU, w_qR, w_kV, q_icst, q_lcst, q_xR, q_ldI, q_ldR, q_ldL, q_bn, q_un, q_dv, q_fI, q_fR, q_aI, q_aR, q_aN, q_tn, q_cmp, q_cmz, q_cnt, q_ctt, q_cand, q_cor, q_vn, q_vI, q_vR, q_vL, q_kI, q_kR, q_kL, q_ckI, envN, argE, List.flatMap_cons, List.flatMap_nil, Value.category, junk, oadd, osub, omul, oand, oor, oxor, odiv, orem, oshl, oshr, oushr, omax, omin]
          rcases hF with ⟨rfl, rfl, rfl⟩ | ⟨rfl, rfl, rfl⟩ <;> simp
        rw [w_sq, w_sI]
        refine q_kIe [.ref 0, .int (nI f), .int (nI g)] ?_ (by simp [rcv, hn, ly0]) ?_
        · rw [q_vI, q_vI, q_vR, q_vn, q_ldR]
          refine ⟨0, rfl, ?_⟩
          rw [q_ldI]
          refine ⟨nI f, rfl, ?_⟩
          refine ev_mono hg' ?_
          rintro x h1 ⟨rfl, rfl⟩
          exact ⟨rfl, rfl⟩
        subst ef1
        refine fq_mono (x_judge y1 (by omega) (inv_ic q) hg4 rfl (by rw [q.2.1.1, hno1])) ?_
        rintro r h1 ⟨rfl, fj, ic, cx, -⟩
        refine ⟨_, rfl, fun _ => ?_, fun z => absurd rfl z⟩
        subst hB hC
        by_cases hd : d = 0
        · refine w_sq.mpr ((w_siT (by simp only [f_mkF, w_sI, w_sR, w_sL, w_sC, w_sk, w_sbr, w_sco, w_rV, w_rI, w_rR, w_rL, w_dI, w_sO, w_sq, w_si, w_pI, w_pZ, w_pR, w_pU, w_qI, w_qB, w_qZ, w_qU, w_qR, w_kV, q_icst, q_lcst, q_xR, q_ldI, q_ldR, q_ldL, q_bn, q_un, q_dv, q_fI, q_fR, q_aI, q_aR, q_aN, q_tn, q_cmp, q_cmz, q_cnt, q_ctt, q_cand, q_cor, q_vn, q_vI, q_vR, q_vL, q_kI, q_kR, q_kL, q_ckI, envN, argE, List.flatMap_cons, List.flatMap_nil, Value.category, junk, oadd, osub, omul, oand, oor, oxor, odiv, orem, oshl, oshr, oushr, omax, omin]; simp (disch := first | omega | simp) [rk_i, rk_b, rk_o, st1, kill, Value.category, rcv, nog, inI_b, nI_clamp, nI_ltI, nI_leI, nI_eq, nI_9, nI_6, nI_22, nI_12, nI_180, nI_add, nI_1, hd])).mpr ?_)
          simp only [f_mkF, w_sI, w_sR, w_sL, w_sC, w_sk, w_sbr, w_sco, w_rV, w_rI, w_rR, w_rL, w_dI, w_sO, w_sq, w_si, w_pI, w_pZ, w_pR, w_pU, w_qI, w_qB, w_qZ, w_qU, w_qR, w_kV, q_icst, q_lcst, q_xR, q_ldI, q_ldR, q_ldL, q_bn, q_un, q_dv, q_fI, q_fR, q_aI, q_aR, q_aN, q_tn, q_cmp, q_cmz, q_cnt, q_ctt, q_cand, q_cor, q_vn, q_vI, q_vR, q_vL, q_kI, q_kR, q_kL, q_ckI, envN, argE, List.flatMap_cons, List.flatMap_nil, Value.category, junk, oadd, osub, omul, oand, oor, oxor, odiv, orem, oshl, oshr, oushr, omax, omin]
          simp [rk_i, rk_b, rk_o, st1, kill, Value.category, rcv, nog, hd, fj, ic.le (show 20 * n + 1 ≤ 20 * n + 2 by omega)]
        · refine w_sq.mpr ((w_siF (by simp only [f_mkF, w_sI, w_sR, w_sL, w_sC, w_sk, w_sbr, w_sco, w_rV, w_rI, w_rR, w_rL, w_dI, w_sO, w_sq, w_si, w_pI, w_pZ, w_pR, w_pU, w_qI, w_qB, w_qZ, w_qU, w_qR, w_kV, q_icst, q_lcst, q_xR, q_ldI, q_ldR, q_ldL, q_bn, q_un, q_dv, q_fI, q_fR, q_aI, q_aR, q_aN, q_tn, q_cmp, q_cmz, q_cnt, q_ctt, q_cand, q_cor, q_vn, q_vI, q_vR, q_vL, q_kI, q_kR, q_kL, q_ckI, envN, argE, List.flatMap_cons, List.flatMap_nil, Value.category, junk, oadd, osub, omul, oand, oor, oxor, odiv, orem, oshl, oshr, oushr, omax, omin]; simp (disch := first | omega | simp) [rk_i, rk_b, rk_o, st1, kill, Value.category, rcv, nog, inI_b, nI_clamp, nI_ltI, nI_leI, nI_eq, nI_9, nI_6, nI_22, nI_12, nI_180, nI_add, nI_1, hd])).mpr (w_sk2.mpr ?_))
          have hn1 := cx.1.1
          refine w_fz fun B hB C hC => ?_
          simp only [f_mkF, w_sI, w_sR, w_sL, w_sC, w_sk, w_sbr, w_sco, w_rV, w_rI, w_rR, w_rL, w_dI, w_sO, w_sq, w_si, w_pI, w_pZ, w_pR, w_pU, w_qI, w_qB, w_qZ, w_qU, w_qR, w_kV, q_icst, q_lcst, q_xR, q_ldI, q_ldR, q_ldL, q_bn, q_un, q_dv, q_fI, q_fR, q_aI, q_aR, q_aN, q_tn, q_cmp, q_cmz, q_cnt, q_ctt, q_cand, q_cor, q_vn, q_vI, q_vR, q_vL, q_kI, q_kR, q_kL, q_ckI, envN, argE, List.flatMap_cons, List.flatMap_nil, Value.category, junk, oadd, osub, omul, oand, oor, oxor, odiv, orem, oshl, oshr, oushr, omax, omin]
          simp (disch := first | omega | simp) [rk_i, rk_b, rk_o, st1, kill, Value.category, rcv, nog, inI_b, nI_clamp, nI_ltI, nI_leI, nI_eq, nI_9, nI_6, nI_22, nI_12, nI_180, nI_add, nI_1, hn1, ly0]
          rw [← ef2]
          refine fq_mono (x_judge (y2.fj fj) (by omega) ic hl4 rfl (by rw [fj.2.2 0 12 (by unfold SJ SX; omega), q.2.1.1, hno2])) ?_
          rintro r h2 ⟨rfl, fj2, ic2, cx2, -⟩
          simp [rk_i, rk_b, rk_o, st1, kill, Value.category, rcv, nog]
          subst hB hC
          have hn2 := cx2.1.1
          have fj3 := fj.trans fj2
          by_cases he : whz w2 0 = whz w1 0
          · refine w_sq.mpr ((w_siT (by simp only [f_mkF, w_sI, w_sR, w_sL, w_sC, w_sk, w_sbr, w_sco, w_rV, w_rI, w_rR, w_rL, w_dI, w_sO, w_sq, w_si, w_pI, w_pZ, w_pR, w_pU, w_qI, w_qB, w_qZ, w_qU, w_qR, w_kV, q_icst, q_lcst, q_xR, q_ldI, q_ldR, q_ldL, q_bn, q_un, q_dv, q_fI, q_fR, q_aI, q_aR, q_aN, q_tn, q_cmp, q_cmz, q_cnt, q_ctt, q_cand, q_cor, q_vn, q_vI, q_vR, q_vL, q_kI, q_kR, q_kL, q_ckI, envN, argE, List.flatMap_cons, List.flatMap_nil, Value.category, junk, oadd, osub, omul, oand, oor, oxor, odiv, orem, oshl, oshr, oushr, omax, omin]; simp (disch := first | omega | simp) [rk_i, rk_b, rk_o, st1, kill, Value.category, rcv, nog, inI_b, nI_clamp, nI_ltI, nI_leI, nI_eq, nI_9, nI_6, nI_22, nI_12, nI_180, nI_add, nI_1, he])).mpr ?_)
            simp only [f_mkF, w_sI, w_sR, w_sL, w_sC, w_sk, w_sbr, w_sco, w_rV, w_rI, w_rR, w_rL, w_dI, w_sO, w_sq, w_si, w_pI, w_pZ, w_pR, w_pU, w_qI, w_qB, w_qZ, w_qU, w_qR, w_kV, q_icst, q_lcst, q_xR, q_ldI, q_ldR, q_ldL, q_bn, q_un, q_dv, q_fI, q_fR, q_aI, q_aR, q_aN, q_tn, q_cmp, q_cmz, q_cnt, q_ctt, q_cand, q_cor, q_vn, q_vI, q_vR, q_vL, q_kI, q_kR, q_kL, q_ckI, envN, argE, List.flatMap_cons, List.flatMap_nil, Value.category, junk, oadd, osub, omul, oand, oor, oxor, odiv, orem, oshl, oshr, oushr, omax, omin]
            simp [rk_i, rk_b, rk_o, st1, kill, Value.category, rcv, nog, hd, he, fj3, ic2]
          · refine w_sq.mpr ((w_siF (by simp only [f_mkF, w_sI, w_sR, w_sL, w_sC, w_sk, w_sbr, w_sco, w_rV, w_rI, w_rR, w_rL, w_dI, w_sO, w_sq, w_si, w_pI, w_pZ, w_pR, w_pU, w_qI, w_qB, w_qZ, w_qU, w_qR, w_kV, q_icst, q_lcst, q_xR, q_ldI, q_ldR, q_ldL, q_bn, q_un, q_dv, q_fI, q_fR, q_aI, q_aR, q_aN, q_tn, q_cmp, q_cmz, q_cnt, q_ctt, q_cand, q_cor, q_vn, q_vI, q_vR, q_vL, q_kI, q_kR, q_kL, q_ckI, envN, argE, List.flatMap_cons, List.flatMap_nil, Value.category, junk, oadd, osub, omul, oand, oor, oxor, odiv, orem, oshl, oshr, oushr, omax, omin]; simp (disch := first | omega | simp) [rk_i, rk_b, rk_o, st1, kill, Value.category, rcv, nog, inI_b, nI_clamp, nI_ltI, nI_leI, nI_eq, nI_9, nI_6, nI_22, nI_12, nI_180, nI_add, nI_1, he])).mpr (w_sk2.mpr ?_))
            have p2' : h2.2.2 0 2 = some 3 := cx2.1.2.1.at 2 rfl
            obtain ⟨p1l, p3l, -⟩ := ptT cx2.1 hl4
            have p4l : 28 + 22 * l < 212 := by omega
            have wl : h2.2.1 (28 + 22 * l) 2 = h.2.1 169 l := by
              rw [fj3.2.2 _ _ (by unfold SJ SX; omega)]
              exact (th_fo q hl4).2.1
            simp only [f_mkF, w_sI, w_sR, w_sL, w_sC, w_sk, w_sbr, w_sco, w_rV, w_rI, w_rR, w_rL, w_dI, w_sO, w_sq, w_si, w_pI, w_pZ, w_pR, w_pU, w_qI, w_qB, w_qZ, w_qU, w_qR, w_kV, q_icst, q_lcst, q_xR, q_ldI, q_ldR, q_ldL, q_bn, q_un, q_dv, q_fI, q_fR, q_aI, q_aR, q_aN, q_tn, q_cmp, q_cmz, q_cnt, q_ctt, q_cand, q_cor, q_vn, q_vI, q_vR, q_vL, q_kI, q_kR, q_kL, q_ckI, envN, argE, List.flatMap_cons, List.flatMap_nil, Value.category, junk, oadd, osub, omul, oand, oor, oxor, odiv, orem, oshl, oshr, oushr, omax, omin]
            by_cases hd1 : d = 1
            · simp [rk_i, rk_b, rk_o, st1, kill, Value.category, rcv, nog, hd, he, hd1, fj3, ic2]
            · simp (disch := first | omega | simp) [rk_i, rk_b, rk_o, st1, kill, Value.category, rcv, nog, inI_b, nI_clamp, nI_ltI, nI_leI, nI_eq, nI_9, nI_6, nI_22, nI_12, nI_180, nI_add, nI_1, hd, he, hd1, fj3, ic2, hn2, ly0, ly3, p2', p1l, p3l, p4l, hl4, wl]
      obtain ⟨r, h1, e1, rfl, fj, ic⟩ := X
      have m1' := m1.fj fj
      have m2' := m2.fj fj
      have hn1 := m1'.1.1
      have hm1 := m1'.1.2.2
      have g72 : h1.2.1 172 g = nI (W_n w1) := (fj.2.2 172 g (by unfold SJ SX; omega)).trans e72
      have l72 : h1.2.1 172 l = nI (W_n w2) := (fj.2.2 172 l (by unfold SJ SX; omega)).trans e72'
      have e2' : h1.2.1 166 2 = h.2.1 166 2 := fj.2.2 166 2 (by unfold SJ SX; omega)
      have e69 : ∀ k, h1.2.1 169 k = h.2.1 169 k := fun k => fj.2.2 169 k (by unfold SJ SX; omega)
      have Y : fq F_X11_joined [.ref 166, .int (nI f), .int (nI t), .int (nI u), .int d] h1 fun r h' => r = some (.int (if d = 0 then whz w1 0 else if whz w2 0 = whz w1 0 then -1 else if d = 1 then whz w2 0 else h.2.1 169 l)) ∧ Fr SN h1 h' := by
        unfold F_X11_joined
        refine f_mkE [.ref 166, .int (nI f), .int (nI t), .int (nI u), .int d, junk, junk, junk] rfl (by simp [argE, Value.category]) ?_
        refine w_sq.mpr ((w_siF (by simp only [f_mkF, w_sI, w_sR, w_sL, w_sC, w_sk, w_sbr, w_sco, w_rV, w_rI, w_rR, w_rL, w_dI, w_sO, w_sq, w_si, w_pI, w_pZ, w_pR, w_pU, w_qI, w_qB, w_qZ, w_qU, w_qR, w_kV, q_icst, q_lcst, q_xR, q_ldI, q_ldR, q_ldL, q_bn, q_un, q_dv, q_fI, q_fR, q_aI, q_aR, q_aN, q_tn, q_cmp, q_cmz, q_cnt, q_ctt, q_cand, q_cor, q_vn, q_vI, q_vR, q_vL, q_kI, q_kR, q_kL, q_ckI, envN, argE, List.flatMap_cons, List.flatMap_nil, Value.category, junk, oadd, osub, omul, oand, oor, oxor, odiv, orem, oshl, oshr, oushr, omax, omin]; simp (disch := first | omega | simp) [rk_i, rk_b, rk_o, st1, kill, Value.category, rcv, nog, inI_b, nI_clamp, nI_ltI, nI_leI, nI_eq, nI_9, nI_6, nI_22, nI_12, nI_180, nI_add, nI_1, hn1, ly166, fq_of (m_can hn1 _ _), fq_of (e_m_isThing _ _ hn1), fq_of (e_m_in _ _ _ _), b2_0, e2', hc, zne, zeq])).mpr (w_sk2.mpr ?_))
        refine w_sqI (E' := [.ref 166, .int (nI f), .int (nI t), .int (nI u), .int d, .int F, junk, junk]) F ?_ rfl ?_
        · simp only [f_mkF, w_sI, w_sR, w_sL, w_sC, w_sk, w_sbr, w_sco, w_rV, w_rI, w_rR, w_rL, w_dI, w_sO, w_sq, w_si, w_pI, w_pZ, w_pR, w_pU, w_qI, w_qB, w_qZ, w_qU, w_qR, w_kV, q_icst, q_lcst, q_xR, q_ldI, q_ldR, q_ldL, q_bn, q_un, q_dv, q_fI, q_fR, q_aI, q_aR, q_aN, q_tn, q_cmp, q_cmz, q_cnt, q_ctt, q_cand, q_cor, q_vn, q_vI, q_vR, q_vL, q_kI, q_kR, q_kL, q_ckI, envN, argE, List.flatMap_cons, List.flatMap_nil, Value.category, junk, oadd, osub, omul, oand, oor, oxor, odiv, orem, oshl, oshr, oushr, omax, omin]
          simp (disch := first | omega | simp) [rk_i, rk_b, rk_o, st1, kill, Value.category, rcv, nog, inI_b, nI_clamp, nI_ltI, nI_leI, nI_eq, nI_9, nI_6, nI_22, nI_12, nI_180, nI_add, nI_1, hn1, ly166, ly169, hm1 5, mp, ht, hu, e69, hF2]
          try grind
        refine w_fz fun B hB C hC => ?_
        rw [w_sq, w_sI]
        refine q_kIe [.ref 166, .int (nI f), .int (nI g)] ?_ (by simp [rcv, hn1, ly166]) ?_
        · simp only [f_mkF, w_sI, w_sR, w_sL, w_sC, w_sk, w_sbr, w_sco, w_rV, w_rI, w_rR, w_rL, w_dI, w_sO, w_sq, w_si, w_pI, w_pZ, w_pR, w_pU, w_qI, w_qB, w_qZ, w_qU, w_qR, w_kV, q_icst, q_lcst, q_xR, q_ldI, q_ldR, q_ldL, q_bn, q_un, q_dv, q_fI, q_fR, q_aI, q_aR, q_aN, q_tn, q_cmp, q_cmz, q_cnt, q_ctt, q_cand, q_cor, q_vn, q_vI, q_vR, q_vL, q_kI, q_kR, q_kL, q_ckI, envN, argE, List.flatMap_cons, List.flatMap_nil, Value.category, junk, oadd, osub, omul, oand, oor, oxor, odiv, orem, oshl, oshr, oushr, omax, omin]
          rcases hF with ⟨rfl, rfl, rfl⟩ | ⟨rfl, rfl, rfl⟩ <;> simp
        rw [← ef1]
        refine fq_mono (m_whose m1' g72 (by rw [e2']; exact hgt)) ?_
        rintro r h2 ⟨rfl, f2⟩
        refine ⟨_, rfl, fun _ => ?_, fun z => absurd rfl z⟩
        subst hB hC
        have m2b := m2'.frn f2
        have hn2 := m2b.1.1
        refine w_fz fun B hB C hC => ?_
        rw [w_sq, w_sI]
        refine q_kIe [.ref 166, .int (nI (W_f w1)), .int (nI l)] ?_ (by simp [rcv, hn2, ly166]) ?_
        · simp only [f_mkF, w_sI, w_sR, w_sL, w_sC, w_sk, w_sbr, w_sco, w_rV, w_rI, w_rR, w_rL, w_dI, w_sO, w_sq, w_si, w_pI, w_pZ, w_pR, w_pU, w_qI, w_qB, w_qZ, w_qU, w_qR, w_kV, q_icst, q_lcst, q_xR, q_ldI, q_ldR, q_ldL, q_bn, q_un, q_dv, q_fI, q_fR, q_aI, q_aR, q_aN, q_tn, q_cmp, q_cmz, q_cnt, q_ctt, q_cand, q_cor, q_vn, q_vI, q_vR, q_vL, q_kI, q_kR, q_kL, q_ckI, envN, argE, List.flatMap_cons, List.flatMap_nil, Value.category, junk, oadd, osub, omul, oand, oor, oxor, odiv, orem, oshl, oshr, oushr, omax, omin]
          rcases hF with ⟨rfl, rfl, rfl⟩ | ⟨rfl, rfl, rfl⟩ <;> simp [rk_i, rk_b, rk_o, st1, kill, Value.category, rcv, nog]
        rw [ef1, ← ef2]
        refine fq_mono (m_whose m2b ((f2.2.2 172 l (by unfold SN SM; omega)).trans l72) (by rw [f2.2.2 166 2 (by unfold SN SM; omega), e2']; exact hlt)) ?_
        rintro r h3 ⟨rfl, f3⟩
        refine ⟨_, rfl, fun _ => ?_, fun z => absurd rfl z⟩
        subst hB hC
        have f4 := f2.trans f3
        by_cases hd : d = 0
        · refine w_sq.mpr ((w_siT (by simp only [f_mkF, w_sI, w_sR, w_sL, w_sC, w_sk, w_sbr, w_sco, w_rV, w_rI, w_rR, w_rL, w_dI, w_sO, w_sq, w_si, w_pI, w_pZ, w_pR, w_pU, w_qI, w_qB, w_qZ, w_qU, w_qR, w_kV, q_icst, q_lcst, q_xR, q_ldI, q_ldR, q_ldL, q_bn, q_un, q_dv, q_fI, q_fR, q_aI, q_aR, q_aN, q_tn, q_cmp, q_cmz, q_cnt, q_ctt, q_cand, q_cor, q_vn, q_vI, q_vR, q_vL, q_kI, q_kR, q_kL, q_ckI, envN, argE, List.flatMap_cons, List.flatMap_nil, Value.category, junk, oadd, osub, omul, oand, oor, oxor, odiv, orem, oshl, oshr, oushr, omax, omin]; simp (disch := first | omega | simp) [rk_i, rk_b, rk_o, st1, kill, Value.category, rcv, nog, inI_b, nI_clamp, nI_ltI, nI_leI, nI_eq, nI_9, nI_6, nI_22, nI_12, nI_180, nI_add, nI_1, hd])).mpr ?_)
          simp only [f_mkF, w_sI, w_sR, w_sL, w_sC, w_sk, w_sbr, w_sco, w_rV, w_rI, w_rR, w_rL, w_dI, w_sO, w_sq, w_si, w_pI, w_pZ, w_pR, w_pU, w_qI, w_qB, w_qZ, w_qU, w_qR, w_kV, q_icst, q_lcst, q_xR, q_ldI, q_ldR, q_ldL, q_bn, q_un, q_dv, q_fI, q_fR, q_aI, q_aR, q_aN, q_tn, q_cmp, q_cmz, q_cnt, q_ctt, q_cand, q_cor, q_vn, q_vI, q_vR, q_vL, q_kI, q_kR, q_kL, q_ckI, envN, argE, List.flatMap_cons, List.flatMap_nil, Value.category, junk, oadd, osub, omul, oand, oor, oxor, odiv, orem, oshl, oshr, oushr, omax, omin]
          simp [rk_i, rk_b, rk_o, st1, kill, Value.category, rcv, nog, hd, f4]
        · refine w_sq.mpr ((w_siF (by simp only [f_mkF, w_sI, w_sR, w_sL, w_sC, w_sk, w_sbr, w_sco, w_rV, w_rI, w_rR, w_rL, w_dI, w_sO, w_sq, w_si, w_pI, w_pZ, w_pR, w_pU, w_qI, w_qB, w_qZ, w_qU, w_qR, w_kV, q_icst, q_lcst, q_xR, q_ldI, q_ldR, q_ldL, q_bn, q_un, q_dv, q_fI, q_fR, q_aI, q_aR, q_aN, q_tn, q_cmp, q_cmz, q_cnt, q_ctt, q_cand, q_cor, q_vn, q_vI, q_vR, q_vL, q_kI, q_kR, q_kL, q_ckI, envN, argE, List.flatMap_cons, List.flatMap_nil, Value.category, junk, oadd, osub, omul, oand, oor, oxor, odiv, orem, oshl, oshr, oushr, omax, omin]; simp (disch := first | omega | simp) [rk_i, rk_b, rk_o, st1, kill, Value.category, rcv, nog, inI_b, nI_clamp, nI_ltI, nI_leI, nI_eq, nI_9, nI_6, nI_22, nI_12, nI_180, nI_add, nI_1, hd])).mpr (w_sk2.mpr ?_))
          by_cases he : whz w2 0 = whz w1 0
          · refine w_sq.mpr ((w_siT (by simp only [f_mkF, w_sI, w_sR, w_sL, w_sC, w_sk, w_sbr, w_sco, w_rV, w_rI, w_rR, w_rL, w_dI, w_sO, w_sq, w_si, w_pI, w_pZ, w_pR, w_pU, w_qI, w_qB, w_qZ, w_qU, w_qR, w_kV, q_icst, q_lcst, q_xR, q_ldI, q_ldR, q_ldL, q_bn, q_un, q_dv, q_fI, q_fR, q_aI, q_aR, q_aN, q_tn, q_cmp, q_cmz, q_cnt, q_ctt, q_cand, q_cor, q_vn, q_vI, q_vR, q_vL, q_kI, q_kR, q_kL, q_ckI, envN, argE, List.flatMap_cons, List.flatMap_nil, Value.category, junk, oadd, osub, omul, oand, oor, oxor, odiv, orem, oshl, oshr, oushr, omax, omin]; simp (disch := first | omega | simp) [rk_i, rk_b, rk_o, st1, kill, Value.category, rcv, nog, inI_b, nI_clamp, nI_ltI, nI_leI, nI_eq, nI_9, nI_6, nI_22, nI_12, nI_180, nI_add, nI_1, he])).mpr ?_)
            simp only [f_mkF, w_sI, w_sR, w_sL, w_sC, w_sk, w_sbr, w_sco, w_rV, w_rI, w_rR, w_rL, w_dI, w_sO, w_sq, w_si, w_pI, w_pZ, w_pR, w_pU, w_qI, w_qB, w_qZ, w_qU, w_qR, w_kV, q_icst, q_lcst, q_xR, q_ldI, q_ldR, q_ldL, q_bn, q_un, q_dv, q_fI, q_fR, q_aI, q_aR, q_aN, q_tn, q_cmp, q_cmz, q_cnt, q_ctt, q_cand, q_cor, q_vn, q_vI, q_vR, q_vL, q_kI, q_kR, q_kL, q_ckI, envN, argE, List.flatMap_cons, List.flatMap_nil, Value.category, junk, oadd, osub, omul, oand, oor, oxor, odiv, orem, oshl, oshr, oushr, omax, omin]
            simp [rk_i, rk_b, rk_o, st1, kill, Value.category, rcv, nog, hd, he, f4]
          · have he' : ¬ whz w1 0 = whz w2 0 := fun z => he z.symm
            refine w_sq.mpr ((w_siF (by simp only [f_mkF, w_sI, w_sR, w_sL, w_sC, w_sk, w_sbr, w_sco, w_rV, w_rI, w_rR, w_rL, w_dI, w_sO, w_sq, w_si, w_pI, w_pZ, w_pR, w_pU, w_qI, w_qB, w_qZ, w_qU, w_qR, w_kV, q_icst, q_lcst, q_xR, q_ldI, q_ldR, q_ldL, q_bn, q_un, q_dv, q_fI, q_fR, q_aI, q_aR, q_aN, q_tn, q_cmp, q_cmz, q_cnt, q_ctt, q_cand, q_cor, q_vn, q_vI, q_vR, q_vL, q_kI, q_kR, q_kL, q_ckI, envN, argE, List.flatMap_cons, List.flatMap_nil, Value.category, junk, oadd, osub, omul, oand, oor, oxor, odiv, orem, oshl, oshr, oushr, omax, omin]; simp (disch := first | omega | simp) [rk_i, rk_b, rk_o, st1, kill, Value.category, rcv, nog, inI_b, nI_clamp, nI_ltI, nI_leI, nI_eq, nI_9, nI_6, nI_22, nI_12, nI_180, nI_add, nI_1, he'])).mpr (w_sk2.mpr ?_))
            have hn3 : h3.1 = 212 := f3.1.trans hn2
            have hm3 : ∀ k, h3.2.2 166 k = mp k := fun k => by rw [f4.2.1]; exact hm1 k
            have e69' : ∀ k, h3.2.1 169 k = h.2.1 169 k := fun k => (f4.2.2 169 k (by unfold SN SM; omega)).trans (e69 k)
            simp only [f_mkF, w_sI, w_sR, w_sL, w_sC, w_sk, w_sbr, w_sco, w_rV, w_rI, w_rR, w_rL, w_dI, w_sO, w_sq, w_si, w_pI, w_pZ, w_pR, w_pU, w_qI, w_qB, w_qZ, w_qU, w_qR, w_kV, q_icst, q_lcst, q_xR, q_ldI, q_ldR, q_ldL, q_bn, q_un, q_dv, q_fI, q_fR, q_aI, q_aR, q_aN, q_tn, q_cmp, q_cmz, q_cnt, q_ctt, q_cand, q_cor, q_vn, q_vI, q_vR, q_vL, q_kI, q_kR, q_kL, q_ckI, envN, argE, List.flatMap_cons, List.flatMap_nil, Value.category, junk, oadd, osub, omul, oand, oor, oxor, odiv, orem, oshl, oshr, oushr, omax, omin]
            by_cases hd1 : d = 1
            · simp [rk_i, rk_b, rk_o, st1, kill, Value.category, rcv, nog, hd, he, hd1, f4]
            · rcases hF with ⟨rfl, rfl, rfl⟩ | ⟨rfl, rfl, rfl⟩
              · simp (disch := first | omega | simp) [rk_i, rk_b, rk_o, st1, kill, Value.category, rcv, nog, inI_b, nI_clamp, nI_ltI, nI_leI, nI_eq, nI_9, nI_6, nI_22, nI_12, nI_180, nI_add, nI_1, hd, he, hd1, f4, hn3, ly166, ly169, hm3, mp, e69', hl4]
              · simp (disch := first | omega | simp) [rk_i, rk_b, rk_o, st1, kill, Value.category, rcv, nog, inI_b, nI_clamp, nI_ltI, nI_leI, nI_eq, nI_9, nI_6, nI_22, nI_12, nI_180, nI_add, nI_1, hd, he, hd1, f4, hn3, ly166, ly169, hm3, mp, e69', hl4]
      obtain ⟨r, h2, e2, rfl, f2⟩ := Y
      exact ⟨_, h1, h2, e1, hn1, e2, inv_j q fj f2 SN_ok (by omega) ic⟩
    · refine ⟨-1, h, h, ?_, hn, ?_, INV_up q⟩
      · rw [← fq_eq]
        unfold F_X10_joined
        refine f_mkE _ rfl (by simp [argE, Value.category]) ?_
        refine w_sq.mpr ((w_siT ?_).mpr ?_)
        · simp only [f_mkF, w_sI, w_sR, w_sL, w_sC, w_sk, w_sbr, w_sco, w_rV, w_rI, w_rR, w_rL, w_dI, w_sO, w_sq, w_si, w_pI, w_pZ, w_pR, w_pU, w_qI, w_qB, w_qZ, w_qU, w_qR, w_kV, q_icst, q_lcst, q_xR, q_ldI, q_ldR, q_ldL, q_bn, q_un, q_dv, q_fI, q_fR, q_aI, q_aR, q_aN, q_tn, q_cmp, q_cmz, q_cnt, q_ctt, q_cand, q_cor, q_vn, q_vI, q_vR, q_vL, q_kI, q_kR, q_kL, q_ckI, envN, argE, List.flatMap_cons, List.flatMap_nil, Value.category, junk, oadd, osub, omul, oand, oor, oxor, odiv, orem, oshl, oshr, oushr, omax, omin]
          simp [rk_i, rk_b, rk_o, st1, kill, Value.category, rcv, nog, fq_of (e_x_isLand _ _), fq_of (i_x_isThing q _), fq_of (e_x_isWithin _ _ _ _), b2_0, hn, ly0, zne, zeq]
          grind
        · simp only [f_mkF, w_sI, w_sR, w_sL, w_sC, w_sk, w_sbr, w_sco, w_rV, w_rI, w_rR, w_rL, w_dI, w_sO, w_sq, w_si, w_pI, w_pZ, w_pR, w_pU, w_qI, w_qB, w_qZ, w_qU, w_qR, w_kV, q_icst, q_lcst, q_xR, q_ldI, q_ldR, q_ldL, q_bn, q_un, q_dv, q_fI, q_fR, q_aI, q_aR, q_aN, q_tn, q_cmp, q_cmz, q_cnt, q_ctt, q_cand, q_cor, q_vn, q_vI, q_vR, q_vL, q_kI, q_kR, q_kL, q_ckI, envN, argE, List.flatMap_cons, List.flatMap_nil, Value.category, junk, oadd, osub, omul, oand, oor, oxor, odiv, orem, oshl, oshr, oushr, omax, omin]; simp [rk_i, rk_b, rk_o, st1, kill, Value.category, rcv, nog]
      · rw [← fq_eq]
        unfold F_X11_joined
        refine f_mkE _ rfl (by simp [argE, Value.category]) ?_
        refine w_sq.mpr ((w_siT ?_).mpr ?_)
        · simp only [f_mkF, w_sI, w_sR, w_sL, w_sC, w_sk, w_sbr, w_sco, w_rV, w_rI, w_rR, w_rL, w_dI, w_sO, w_sq, w_si, w_pI, w_pZ, w_pR, w_pU, w_qI, w_qB, w_qZ, w_qU, w_qR, w_kV, q_icst, q_lcst, q_xR, q_ldI, q_ldR, q_ldL, q_bn, q_un, q_dv, q_fI, q_fR, q_aI, q_aR, q_aN, q_tn, q_cmp, q_cmz, q_cnt, q_ctt, q_cand, q_cor, q_vn, q_vI, q_vR, q_vL, q_kI, q_kR, q_kL, q_ckI, envN, argE, List.flatMap_cons, List.flatMap_nil, Value.category, junk, oadd, osub, omul, oand, oor, oxor, odiv, orem, oshl, oshr, oushr, omax, omin]
          simp [rk_i, rk_b, rk_o, st1, kill, Value.category, rcv, nog, fq_of (m_can hn _ _), fq_of (e_m_isThing _ _ hn), fq_of (e_m_in _ _ _ _), b2_0, hn, ly166, zne, zeq]
          grind
        · simp only [f_mkF, w_sI, w_sR, w_sL, w_sC, w_sk, w_sbr, w_sco, w_rV, w_rI, w_rR, w_rL, w_dI, w_sO, w_sq, w_si, w_pI, w_pZ, w_pR, w_pU, w_qI, w_qB, w_qZ, w_qU, w_qR, w_kV, q_icst, q_lcst, q_xR, q_ldI, q_ldR, q_ldL, q_bn, q_un, q_dv, q_fI, q_fR, q_aI, q_aR, q_aN, q_tn, q_cmp, q_cmz, q_cnt, q_ctt, q_cand, q_cor, q_vn, q_vI, q_vR, q_vL, q_kI, q_kR, q_kL, q_ckI, envN, argE, List.flatMap_cons, List.flatMap_nil, Value.category, junk, oadd, osub, omul, oand, oor, oxor, odiv, orem, oshl, oshr, oushr, omax, omin]; simp [rk_i, rk_b, rk_o, st1, kill, Value.category, rcv, nog]
