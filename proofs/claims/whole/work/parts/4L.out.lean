/-! out: both -/
theorem g_out : AG (INV LWc) F_X10_out F_X11_out 3 := by
  intro n h vs hl hn5 q
  match vs, hl with
  | [a, b, p], _ =>
    have hn := q.1.1
    by_cases hc : (0 ≤ a ∧ a ≤ 5) ∧ (0 ≤ b ∧ b < h.2.1 166 2) ∧ (0 ≤ p ∧ p < h.2.1 166 1)
    · obtain ⟨f, hf, rfl⟩ := land_num hc.1
      obtain ⟨t, ht, rfl⟩ := th_num q hc.2.1.1 hc.2.1.2
      obtain ⟨w, ra, y, m, e72, rfl, hno, hRw, ⟨hwo, hfo⟩, -, hv, -⟩ := wd_of q hf ht hc.2.1.2
      obtain ⟨np, n1, n2, n3⟩ := giv_of q ht hc.2.1.2 hRw hfo hv
      have hP := pur_of q
      have X : fq F_X10_out [.ref 0, .int (nI (W_f w)), .int (nI t), .int p] h fun r h' => r = some (.int (outv w (h.2.1 168) p)) ∧ Fk h h' ∧ IC (20 * n + 1) h' := by
        unfold F_X10_out
        refine f_mkE _ rfl (by simp [argE, Value.category]) ?_
        refine w_sq.mpr ((w_siF (by simp only [f_mkF, w_sI, w_sR, w_sL, w_sC, w_sk, w_sbr, w_sco, w_rV, w_rI, w_rR, w_rL, w_dI, w_sO, w_sq, w_si, w_pI, w_pZ, w_pR, w_pU, w_qI, w_qB, w_qZ, w_qU, w_qR, w_kV, q_icst, q_lcst, q_xR, q_ldI, q_ldR, q_ldL, q_bn, q_un, q_dv, q_fI, q_fR, q_aI, q_aR, q_aN, q_tn, q_cmp, q_cmz, q_cnt, q_ctt, q_cand, q_cor, q_vn, q_vI, q_vR, q_vL, q_kI, q_kR, q_kL, q_ckI, envN, argE, List.flatMap_cons, List.flatMap_nil, Value.category, junk, oadd, osub, omul, oand, oor, oxor, odiv, orem, oshl, oshr, oushr, omax, omin]; simp (disch := first | omega | simp) [rk_i, rk_b, rk_o, st1, kill, Value.category, rcv, nog, inI_b, nI_clamp, nI_ltI, nI_leI, nI_eq, nI_9, nI_6, nI_22, nI_12, nI_180, nI_add, nI_1, hn, ly0, fq_of (e_x_isLand _ _), fq_of (i_x_isThing q _), fq_of (i_x_isPerson q _), b2_0, hc, zne, zeq])).mpr (w_sk2.mpr ?_))
        refine w_fz fun B hB C hC => ?_
        simp only [f_mkF, w_sI, w_sR, w_sL, w_sC, w_sk, w_sbr, w_sco, w_rV, w_rI, w_rR, w_rL, w_dI, w_sO, w_sq, w_si, w_pI, w_pZ, w_pR, w_pU, w_qI, w_qB, w_qZ, w_qU, w_qR, w_kV, q_icst, q_lcst, q_xR, q_ldI, q_ldR, q_ldL, q_bn, q_un, q_dv, q_fI, q_fR, q_aI, q_aR, q_aN, q_tn, q_cmp, q_cmz, q_cnt, q_ctt, q_cand, q_cor, q_vn, q_vI, q_vR, q_vL, q_kI, q_kR, q_kL, q_ckI, envN, argE, List.flatMap_cons, List.flatMap_nil, Value.category, junk, oadd, osub, omul, oand, oor, oxor, odiv, orem, oshl, oshr, oushr, omax, omin]
        simp (disch := first | omega | simp) [rk_i, rk_b, rk_o, st1, kill, Value.category, rcv, nog, inI_b, nI_clamp, nI_ltI, nI_leI, nI_eq, nI_9, nI_6, nI_22, nI_12, nI_180, nI_add, nI_1, hn, ly0]
        refine fq_mono (x_judge y (by omega) (inv_ic q) ht rfl (by rw [q.2.1.1, hno])) ?_
        rintro r h1 ⟨rfl, fj, ic, cx, -, hX, -⟩
        simp
        subst hB hC
        have hn1 := cx.1.1
        have p10 : h1.2.2 0 10 = some 162 := cx.1.2.1.at 10 rfl
        have p1' : h1.2.2 0 1 = some 2 := cx.1.2.1.at 1 rfl
        refine w_fz fun B hB C hC => ?_
        simp only [f_mkF, w_sI, w_sR, w_sL, w_sC, w_sk, w_sbr, w_sco, w_rV, w_rI, w_rR, w_rL, w_dI, w_sO, w_sq, w_si, w_pI, w_pZ, w_pR, w_pU, w_qI, w_qB, w_qZ, w_qU, w_qR, w_kV, q_icst, q_lcst, q_xR, q_ldI, q_ldR, q_ldL, q_bn, q_un, q_dv, q_fI, q_fR, q_aI, q_aR, q_aN, q_tn, q_cmp, q_cmz, q_cnt, q_ctt, q_cand, q_cor, q_vn, q_vI, q_vR, q_vL, q_kI, q_kR, q_kL, q_ckI, envN, argE, List.flatMap_cons, List.flatMap_nil, Value.category, junk, oadd, osub, omul, oand, oor, oxor, odiv, orem, oshl, oshr, oushr, omax, omin]
        simp (disch := first | omega | simp) [rk_i, rk_b, rk_o, st1, kill, Value.category, rcv, nog, inI_b, nI_clamp, nI_ltI, nI_leI, nI_eq, nI_9, nI_6, nI_22, nI_12, nI_180, nI_add, nI_1, hn1, ly0, ly162, p10, p1']
        refine fq_mono (x_settle cx hX) ?_
        rintro r h2 ⟨rfl, f2, ar⟩
        simp
        subst hB hC
        have hn2 : h2.1 = 212 := f2.1.trans hn1
        have fk := fj.k.trans (Fk.of f2 fun x k z => SAs_K z)
        have ic2 := ic.as f2
        have cx2 := cx.fas f2
        have hX2 : XR w 0 (lows w) (W_n w) h2 := hX.fr f2 fun a k z1 z2 => by unfold SAs S9; omega
        have e2h : h1.2.1 2 = h.2.1 168 := by rw [← hP]; exact funext fun k => fj.2.2 2 k (by unfold SJ SX; omega)
        rw [e2h] at ar
        have el := x_loss cx2 hX2 q.2.2.1.2.2.2.2.2 ar p
        simp only [f_mkF, w_sI, w_sR, w_sL, w_sC, w_sk, w_sbr, w_sco, w_rV, w_rI, w_rR, w_rL, w_dI, w_sO, w_sq, w_si, w_pI, w_pZ, w_pR, w_pU, w_qI, w_qB, w_qZ, w_qU, w_qR, w_kV, q_icst, q_lcst, q_xR, q_ldI, q_ldR, q_ldL, q_bn, q_un, q_dv, q_fI, q_fR, q_aI, q_aR, q_aN, q_tn, q_cmp, q_cmz, q_cnt, q_ctt, q_cand, q_cor, q_vn, q_vI, q_vR, q_vL, q_kI, q_kR, q_kL, q_ckI, envN, argE, List.flatMap_cons, List.flatMap_nil, Value.category, junk, oadd, osub, omul, oand, oor, oxor, odiv, orem, oshl, oshr, oushr, omax, omin]
        simp [rk_i, rk_b, rk_o, st1, kill, Value.category, rcv, nog, hn2, ly0, ly162, f2.2.1, p10, fq_of el, fk, ic2]
      obtain ⟨r, h1, e1, rfl, fj, ic⟩ := X
      have m1 := m.fk fj
      have hn1 := m1.1.1
      have e72' : h1.2.1 172 t = nI (W_n w) := (fj.2.2 172 t (by unfold SK2; omega)).trans e72
      have e2' : h1.2.1 166 2 = h.2.1 166 2 := fj.2.2 166 2 (by unfold SK2; omega)
      have e1' : h1.2.1 166 1 = h.2.1 166 1 := fj.2.2 166 1 (by unfold SK2; omega)
      have n1' : h1.2.1 166 1 = nI np := (fj.2.2 166 1 (by unfold SK2; omega)).trans n1
      have Y : fq F_X11_out [.ref 166, .int (nI (W_f w)), .int (nI t), .int p] h1 fun r h' => r = some (.int (outv w (h.2.1 168) p)) ∧ Fr SAm h1 h' := by
        unfold F_X11_out
        refine f_mkE _ rfl (by simp [argE, Value.category]) ?_
        refine w_sq.mpr ((w_siF (by simp only [f_mkF, w_sI, w_sR, w_sL, w_sC, w_sk, w_sbr, w_sco, w_rV, w_rI, w_rR, w_rL, w_dI, w_sO, w_sq, w_si, w_pI, w_pZ, w_pR, w_pU, w_qI, w_qB, w_qZ, w_qU, w_qR, w_kV, q_icst, q_lcst, q_xR, q_ldI, q_ldR, q_ldL, q_bn, q_un, q_dv, q_fI, q_fR, q_aI, q_aR, q_aN, q_tn, q_cmp, q_cmz, q_cnt, q_ctt, q_cand, q_cor, q_vn, q_vI, q_vR, q_vL, q_kI, q_kR, q_kL, q_ckI, envN, argE, List.flatMap_cons, List.flatMap_nil, Value.category, junk, oadd, osub, omul, oand, oor, oxor, odiv, orem, oshl, oshr, oushr, omax, omin]; simp (disch := first | omega | simp) [rk_i, rk_b, rk_o, st1, kill, Value.category, rcv, nog, inI_b, nI_clamp, nI_ltI, nI_leI, nI_eq, nI_9, nI_6, nI_22, nI_12, nI_180, nI_add, nI_1, hn1, ly166, fq_of (m_can hn1 _ _), fq_of (e_m_isPerson _ _ hn1), b2_0, e2', e1', hc, zne, zeq])).mpr (w_sk2.mpr ?_))
        refine w_fz fun B hB C hC => ?_
        simp only [f_mkF, w_sI, w_sR, w_sL, w_sC, w_sk, w_sbr, w_sco, w_rV, w_rI, w_rR, w_rL, w_dI, w_sO, w_sq, w_si, w_pI, w_pZ, w_pR, w_pU, w_qI, w_qB, w_qZ, w_qU, w_qR, w_kV, q_icst, q_lcst, q_xR, q_ldI, q_ldR, q_ldL, q_bn, q_un, q_dv, q_fI, q_fR, q_aI, q_aR, q_aN, q_tn, q_cmp, q_cmz, q_cnt, q_ctt, q_cand, q_cor, q_vn, q_vI, q_vR, q_vL, q_kI, q_kR, q_kL, q_ckI, envN, argE, List.flatMap_cons, List.flatMap_nil, Value.category, junk, oadd, osub, omul, oand, oor, oxor, odiv, orem, oshl, oshr, oushr, omax, omin]
        simp (disch := first | omega | simp) [rk_i, rk_b, rk_o, st1, kill, Value.category, rcv, nog, inI_b, nI_clamp, nI_ltI, nI_leI, nI_eq, nI_9, nI_6, nI_22, nI_12, nI_180, nI_add, nI_1, hn1, ly166]
        refine fq_mono (m_asks_all m1 e72' n1' n2 n3) ?_
        rintro r h2 ⟨rfl, f2, ar⟩
        simp
        subst hB hC
        have hn2 : h2.1 = 212 := f2.1.trans hn1
        have q2 := m1.fam f2
        have hm2 : ∀ k, h2.2.2 166 k = mp k := q2.1.2.2
        have n20 := q2.wv.1
        have e68 : h1.2.1 168 = h.2.1 168 := funext fun k => fj.2.2 168 k (by unfold SK2; omega)
        rw [e68] at ar
        have d72 : h2.2.1 172 t = nI (W_n w) := (f2.2.2 172 t (by unfold SAm SN SM; omega)).trans e72'
        have eh := m_hold q2 d72
        obtain ⟨ar1, ar2, ar3⟩ := ar
        obtain ⟨bm1, bm2, bm3⟩ := bck_m q2.wv
        obtain ⟨w4, w5, w6⟩ := q2.2.2.2.1
        refine w_sqI (E' := [.ref 166, .int (nI (W_f w)), .int (nI t), .int p, .int 0, junk, junk]) 0 (by simp only [f_mkF, w_sI, w_sR, w_sL, w_sC, w_sk, w_sbr, w_sco, w_rV, w_rI, w_rR, w_rL, w_dI, w_sO, w_sq, w_si, w_pI, w_pZ, w_pR, w_pU, w_qI, w_qB, w_qZ, w_qU, w_qR, w_kV, q_icst, q_lcst, q_xR, q_ldI, q_ldR, q_ldL, q_bn, q_un, q_dv, q_fI, q_fR, q_aI, q_aR, q_aN, q_tn, q_cmp, q_cmz, q_cnt, q_ctt, q_cand, q_cor, q_vn, q_vI, q_vR, q_vL, q_kI, q_kR, q_kL, q_ckI, envN, argE, List.flatMap_cons, List.flatMap_nil, Value.category, junk, oadd, osub, omul, oand, oor, oxor, odiv, orem, oshl, oshr, oushr, omax, omin]; simp) rfl ?_
        refine w_sqS (fun E1 h3 => h3 = h2 ∧ ∃ x y, E1 = [.ref 166, .int (nI (W_f w)), .int (nI t), .int p, .int (lss w (h.2.1 168) p (W_n w)), x, y] ∧ x.category = 1 ∧ y.category = 1) ?_ ?_
        · refine w_sqI (E' := [.ref 166, .int (nI (W_f w)), .int (nI t), .int p, .int 0, .int (nI 0), junk]) (nI 0) (by simp only [f_mkF, w_sI, w_sR, w_sL, w_sC, w_sk, w_sbr, w_sco, w_rV, w_rI, w_rR, w_rL, w_dI, w_sO, w_sq, w_si, w_pI, w_pZ, w_pR, w_pU, w_qI, w_qB, w_qZ, w_qU, w_qR, w_kV, q_icst, q_lcst, q_xR, q_ldI, q_ldR, q_ldL, q_bn, q_un, q_dv, q_fI, q_fR, q_aI, q_aR, q_aN, q_tn, q_cmp, q_cmz, q_cnt, q_ctt, q_cand, q_cor, q_vn, q_vI, q_vR, q_vL, q_kI, q_kR, q_kL, q_ckI, envN, argE, List.flatMap_cons, List.flatMap_nil, Value.category, junk, oadd, osub, omul, oand, oor, oxor, odiv, orem, oshl, oshr, oushr, omax, omin]; simp [nI_0]) rfl ?_
          refine w_lp (fun k E h' => h' = h2 ∧ ∃ j v6, k = W_n w - j ∧ j ≤ W_n w ∧ E = [.ref 166, .int (nI (W_f w)), .int (nI t), .int p, .int (lss w (h.2.1 168) p j), .int (nI j), v6] ∧ v6.category = 1) ?_ (W_n w) _ _ ⟨rfl, 0, junk, rfl, by omega, rfl, rfl⟩
          rintro k E h' ⟨rfl, j, v6, rfl, hj, rfl, c6⟩
          by_cases hjn : j < W_n w
          · obtain ⟨r0, r1, r2, r3, r4, r5, r6⟩ := q2.row hjn
            have j20 : j < 20 := by omega
            have gq : h'.2.1 208 j = gvq w (h.2.1 168) j := (ar1 j hjn).2
            refine ev_T ?_ ⟨fun z => (by cases z), fun _ => ?_⟩
            · simp only [f_mkF, w_sI, w_sR, w_sL, w_sC, w_sk, w_sbr, w_sco, w_rV, w_rI, w_rR, w_rL, w_dI, w_sO, w_sq, w_si, w_pI, w_pZ, w_pR, w_pU, w_qI, w_qB, w_qZ, w_qU, w_qR, w_kV, q_icst, q_lcst, q_xR, q_ldI, q_ldR, q_ldL, q_bn, q_un, q_dv, q_fI, q_fR, q_aI, q_aR, q_aN, q_tn, q_cmp, q_cmz, q_cnt, q_ctt, q_cand, q_cor, q_vn, q_vI, q_vR, q_vL, q_kI, q_kR, q_kL, q_ckI, envN, argE, List.flatMap_cons, List.flatMap_nil, Value.category, junk, oadd, osub, omul, oand, oor, oxor, odiv, orem, oshl, oshr, oushr, omax, omin]
              simp (disch := first | omega | simp) [rk_i, rk_b, rk_o, st1, kill, Value.category, rcv, nog, inI_b, nI_clamp, nI_ltI, nI_leI, nI_eq, nI_9, nI_6, nI_22, nI_12, nI_180, nI_add, nI_1, hn2, ly166, ly172, hm2, mp, ht, d72, hjn]
            refine w_sqI (E' := [.ref 166, .int (nI (W_f w)), .int (nI t), .int p, .int (lss w (h.2.1 168) p j), .int (nI j), .int (W_R w j 4 - gvq w (h.2.1 168) j)]) (W_R w j 4 - gvq w (h.2.1 168) j) ?_ (by simp [st1, kill, Value.category]) ?_
            · simp only [f_mkF, w_sI, w_sR, w_sL, w_sC, w_sk, w_sbr, w_sco, w_rV, w_rI, w_rR, w_rL, w_dI, w_sO, w_sq, w_si, w_pI, w_pZ, w_pR, w_pU, w_qI, w_qB, w_qZ, w_qU, w_qR, w_kV, q_icst, q_lcst, q_xR, q_ldI, q_ldR, q_ldL, q_bn, q_un, q_dv, q_fI, q_fR, q_aI, q_aR, q_aN, q_tn, q_cmp, q_cmz, q_cnt, q_ctt, q_cand, q_cor, q_vn, q_vI, q_vR, q_vL, q_kI, q_kR, q_kL, q_ckI, envN, argE, List.flatMap_cons, List.flatMap_nil, Value.category, junk, oadd, osub, omul, oand, oor, oxor, odiv, orem, oshl, oshr, oushr, omax, omin]
              simp (disch := first | omega | simp) [rk_i, rk_b, rk_o, st1, kill, Value.category, rcv, nog, inI_b, nI_clamp, nI_ltI, nI_leI, nI_eq, nI_9, nI_6, nI_22, nI_12, nI_180, nI_add, nI_1, hn2, ly166, ly177, ly208, hm2, mp, r0, r5, j20, gq]
            refine w_sIe (E' := [.ref 166, .int (nI (W_f w)), .int (nI t), .int p, .int (lss w (h.2.1 168) p (j + 1)), .int (nI j), .int (W_R w j 4 - gvq w (h.2.1 168) j)]) (lss w (h.2.1 168) p (j + 1)) ?_ (by simp [st1, kill, Value.category]) ⟨fun _ => ?_, (fun z => by cases z), fun z => absurd rfl z⟩
            · rw [lss]
              simp only [f_mkF, w_sI, w_sR, w_sL, w_sC, w_sk, w_sbr, w_sco, w_rV, w_rI, w_rR, w_rL, w_dI, w_sO, w_sq, w_si, w_pI, w_pZ, w_pR, w_pU, w_qI, w_qB, w_qZ, w_qU, w_qR, w_kV, q_icst, q_lcst, q_xR, q_ldI, q_ldR, q_ldL, q_bn, q_un, q_dv, q_fI, q_fR, q_aI, q_aR, q_aN, q_tn, q_cmp, q_cmz, q_cnt, q_ctt, q_cand, q_cor, q_vn, q_vI, q_vR, q_vL, q_kI, q_kR, q_kL, q_ckI, envN, argE, List.flatMap_cons, List.flatMap_nil, Value.category, junk, oadd, osub, omul, oand, oor, oxor, odiv, orem, oshl, oshr, oushr, omax, omin]
              by_cases y1 : W_R w j 1 = p <;> by_cases y2 : frm (W_R w) (W_fo w) j = p <;> simp (disch := first | omega | simp) [rk_i, rk_b, rk_o, st1, kill, Value.category, rcv, nog, inI_b, nI_clamp, nI_ltI, nI_leI, nI_eq, nI_9, nI_6, nI_22, nI_12, nI_180, nI_add, nI_1, hn2, ly166, ly174, hm2, mp, r0, r2, fq_of (q2.fw (i := j) (by omega)), y1, y2]
            · refine w_sCe (nI j) (nI (j + 1)) rfl (nI_1 _) rfl ⟨rfl, W_n w - (j + 1), by omega, rfl, j + 1, _, rfl, hjn, rfl, rfl⟩
          · have hjj : j = W_n w := by omega
            subst hjj
            refine ev_F ?_ ⟨fun _ => ⟨rfl, rfl, _, _, rfl, rfl, c6⟩, fun z => (by cases z)⟩
            simp only [f_mkF, w_sI, w_sR, w_sL, w_sC, w_sk, w_sbr, w_sco, w_rV, w_rI, w_rR, w_rL, w_dI, w_sO, w_sq, w_si, w_pI, w_pZ, w_pR, w_pU, w_qI, w_qB, w_qZ, w_qU, w_qR, w_kV, q_icst, q_lcst, q_xR, q_ldI, q_ldR, q_ldL, q_bn, q_un, q_dv, q_fI, q_fR, q_aI, q_aR, q_aN, q_tn, q_cmp, q_cmz, q_cnt, q_ctt, q_cand, q_cor, q_vn, q_vI, q_vR, q_vL, q_kI, q_kR, q_kL, q_ckI, envN, argE, List.flatMap_cons, List.flatMap_nil, Value.category, junk, oadd, osub, omul, oand, oor, oxor, odiv, orem, oshl, oshr, oushr, omax, omin]
            simp (disch := first | omega | simp) [rk_i, rk_b, rk_o, st1, kill, Value.category, rcv, nog, inI_b, nI_clamp, nI_ltI, nI_leI, nI_eq, nI_9, nI_6, nI_22, nI_12, nI_180, nI_add, nI_1, hn2, ly166, ly172, hm2, mp, ht, d72]
        rintro E1 h3 ⟨rfl, x, y, rfl, cx, cy⟩
        generalize hacc : lss w (h.2.1 168) p (W_n w) = acc
        have hgo : wp (rI (bn osub (bn oadd (ldI 4) (tn (cnt (cmp one (aI 13 (fR 11 6 (ldR 0)) (ldI 2)) (ldI 3))) (aI 13 (fR 11 5 (ldR 0)) (ldI 2)) (icst 0))) (tn (cnt (cmp one (fI 11 51 (ldR 0)) (ldI 3))) (aI 13 (fR 11 5 (ldR 0)) (ldI 2)) (icst 0)))) [.ref 166, .int (nI (W_f w)), .int (nI t), .int p, .int (acc + (if whz w 0 = p then bk0 w else 0) - (if frm (W_R w) (W_fo w) (W_n w) = p then bk0 w else 0)), x, y] h3 fun o v _ h' => (o = 1 ∧ some FieldType.int = none ∧ (none = some (Value.int (outv w (h.2.1 168) p)) ∧ Fr SAm h1 h')) ∨ (o = 2 ∧ rok (some .int) v = true ∧ (some v = some (Value.int (outv w (h.2.1 168) p)) ∧ Fr SAm h1 h')) := by
          rw [w_rI]
          refine ev_mono (P := fun v h4 => v = outv w (h.2.1 168) p ∧ h4 = h3) ?_ ?_
          · unfold outv
            rw [hacc]
            simp only [f_mkF, w_sI, w_sR, w_sL, w_sC, w_sk, w_sbr, w_sco, w_rV, w_rI, w_rR, w_rL, w_dI, w_sO, w_sq, w_si, w_pI, w_pZ, w_pR, w_pU, w_qI, w_qB, w_qZ, w_qU, w_qR, w_kV, q_icst, q_lcst, q_xR, q_ldI, q_ldR, q_ldL, q_bn, q_un, q_dv, q_fI, q_fR, q_aI, q_aR, q_aN, q_tn, q_cmp, q_cmz, q_cnt, q_ctt, q_cand, q_cor, q_vn, q_vI, q_vR, q_vL, q_kI, q_kR, q_kL, q_ckI, envN, argE, List.flatMap_cons, List.flatMap_nil, Value.category, junk, oadd, osub, omul, oand, oor, oxor, odiv, orem, oshl, oshr, oushr, omax, omin]
            by_cases y1 : W_fo w = p <;> by_cases y2 : whz w 0 = p <;> simp (disch := first | omega | simp) [rk_i, rk_b, rk_o, st1, kill, Value.category, rcv, nog, inI_b, nI_clamp, nI_ltI, nI_leI, nI_eq, nI_9, nI_6, nI_22, nI_12, nI_180, nI_add, nI_1, hn2, ly166, ly169, ly170, hm2, mp, ht, w4, w5, ar3, y1, y2]
          · rintro v h4 ⟨rfl, rfl⟩
            exact Or.inr ⟨rfl, rfl, rfl, f2⟩
        by_cases hb : 0 < bck w
        · have hb2 := bm3 hb
          refine w_sq.mpr ((w_siT ?_).mpr ?_)
          · simp only [f_mkF, w_sI, w_sR, w_sL, w_sC, w_sk, w_sbr, w_sco, w_rV, w_rI, w_rR, w_rL, w_dI, w_sO, w_sq, w_si, w_pI, w_pZ, w_pR, w_pU, w_qI, w_qB, w_qZ, w_qU, w_qR, w_kV, q_icst, q_lcst, q_xR, q_ldI, q_ldR, q_ldL, q_bn, q_un, q_dv, q_fI, q_fR, q_aI, q_aR, q_aN, q_tn, q_cmp, q_cmz, q_cnt, q_ctt, q_cand, q_cor, q_vn, q_vI, q_vR, q_vL, q_kI, q_kR, q_kL, q_ckI, envN, argE, List.flatMap_cons, List.flatMap_nil, Value.category, junk, oadd, osub, omul, oand, oor, oxor, odiv, orem, oshl, oshr, oushr, omax, omin]
            simp [rk_i, rk_b, rk_o, st1, kill, Value.category, rcv, nog, hn2, ly166, ar2, hb]
          · refine w_sIe _ ?_ rfl ⟨fun _ => hgo, fun z => absurd rfl z⟩
            simp only [f_mkF, w_sI, w_sR, w_sL, w_sC, w_sk, w_sbr, w_sco, w_rV, w_rI, w_rR, w_rL, w_dI, w_sO, w_sq, w_si, w_pI, w_pZ, w_pR, w_pU, w_qI, w_qB, w_qZ, w_qU, w_qR, w_kV, q_icst, q_lcst, q_xR, q_ldI, q_ldR, q_ldL, q_bn, q_un, q_dv, q_fI, q_fR, q_aI, q_aR, q_aN, q_tn, q_cmp, q_cmz, q_cnt, q_ctt, q_cand, q_cor, q_vn, q_vI, q_vR, q_vL, q_kI, q_kR, q_kL, q_ckI, envN, argE, List.flatMap_cons, List.flatMap_nil, Value.category, junk, oadd, osub, omul, oand, oor, oxor, odiv, orem, oshl, oshr, oushr, omax, omin]
            by_cases y1 : whz w 0 = p <;> by_cases y2 : frm (W_R w) (W_fo w) (W_n w) = p <;> simp (disch := first | omega | simp) [rk_i, rk_b, rk_o, st1, kill, Value.category, rcv, nog, inI_b, nI_clamp, nI_ltI, nI_leI, nI_eq, nI_9, nI_6, nI_22, nI_12, nI_180, nI_add, nI_1, hn2, ly166, ar2, ar3, hb2, fq_of eh, y1, y2]
        · have hb0 : bk0 w = 0 := by
            rcases bm2 with z | z
            · exact absurd z hb
            · exact z
          refine w_sq.mpr ((w_siF ?_).mpr (w_sk2.mpr ?_))
          · simp only [f_mkF, w_sI, w_sR, w_sL, w_sC, w_sk, w_sbr, w_sco, w_rV, w_rI, w_rR, w_rL, w_dI, w_sO, w_sq, w_si, w_pI, w_pZ, w_pR, w_pU, w_qI, w_qB, w_qZ, w_qU, w_qR, w_kV, q_icst, q_lcst, q_xR, q_ldI, q_ldR, q_ldL, q_bn, q_un, q_dv, q_fI, q_fR, q_aI, q_aR, q_aN, q_tn, q_cmp, q_cmz, q_cnt, q_ctt, q_cand, q_cor, q_vn, q_vI, q_vR, q_vL, q_kI, q_kR, q_kL, q_ckI, envN, argE, List.flatMap_cons, List.flatMap_nil, Value.category, junk, oadd, osub, omul, oand, oor, oxor, odiv, orem, oshl, oshr, oushr, omax, omin]
            simp [rk_i, rk_b, rk_o, st1, kill, Value.category, rcv, nog, hn2, ly166, ar2, hb]
            try exact Int32.not_lt.mp hb
          · have hz : acc + (if whz w 0 = p then bk0 w else 0) - (if frm (W_R w) (W_fo w) (W_n w) = p then bk0 w else 0) = acc := by
              rw [hb0]
              simp
            rw [hz] at hgo
            exact hgo
      obtain ⟨r, h2, e2, rfl, f2⟩ := Y
      exact ⟨_, h1, h2, e1, hn1, e2, inv_k q fj f2 SAm_ok (by omega) ic⟩
    · refine ⟨-2000000000, h, h, ?_, hn, ?_, INV_up q⟩
      · rw [← fq_eq]
        unfold F_X10_out
        refine f_mkE _ rfl (by simp [argE, Value.category]) ?_
        refine w_sq.mpr ((w_siT ?_).mpr ?_)
        · simp only [f_mkF, w_sI, w_sR, w_sL, w_sC, w_sk, w_sbr, w_sco, w_rV, w_rI, w_rR, w_rL, w_dI, w_sO, w_sq, w_si, w_pI, w_pZ, w_pR, w_pU, w_qI, w_qB, w_qZ, w_qU, w_qR, w_kV, q_icst, q_lcst, q_xR, q_ldI, q_ldR, q_ldL, q_bn, q_un, q_dv, q_fI, q_fR, q_aI, q_aR, q_aN, q_tn, q_cmp, q_cmz, q_cnt, q_ctt, q_cand, q_cor, q_vn, q_vI, q_vR, q_vL, q_kI, q_kR, q_kL, q_ckI, envN, argE, List.flatMap_cons, List.flatMap_nil, Value.category, junk, oadd, osub, omul, oand, oor, oxor, odiv, orem, oshl, oshr, oushr, omax, omin]
          simp [rk_i, rk_b, rk_o, st1, kill, Value.category, rcv, nog, fq_of (e_x_isLand _ _), fq_of (i_x_isThing q _), fq_of (i_x_isPerson q _), b2_0, hn, ly0, zne, zeq]
          grind
        · simp only [f_mkF, w_sI, w_sR, w_sL, w_sC, w_sk, w_sbr, w_sco, w_rV, w_rI, w_rR, w_rL, w_dI, w_sO, w_sq, w_si, w_pI, w_pZ, w_pR, w_pU, w_qI, w_qB, w_qZ, w_qU, w_qR, w_kV, q_icst, q_lcst, q_xR, q_ldI, q_ldR, q_ldL, q_bn, q_un, q_dv, q_fI, q_fR, q_aI, q_aR, q_aN, q_tn, q_cmp, q_cmz, q_cnt, q_ctt, q_cand, q_cor, q_vn, q_vI, q_vR, q_vL, q_kI, q_kR, q_kL, q_ckI, envN, argE, List.flatMap_cons, List.flatMap_nil, Value.category, junk, oadd, osub, omul, oand, oor, oxor, odiv, orem, oshl, oshr, oushr, omax, omin]; simp [rk_i, rk_b, rk_o, st1, kill, Value.category, rcv, nog]
      · rw [← fq_eq]
        unfold F_X11_out
        refine f_mkE _ rfl (by simp [argE, Value.category]) ?_
        refine w_sq.mpr ((w_siT ?_).mpr ?_)
        · simp only [f_mkF, w_sI, w_sR, w_sL, w_sC, w_sk, w_sbr, w_sco, w_rV, w_rI, w_rR, w_rL, w_dI, w_sO, w_sq, w_si, w_pI, w_pZ, w_pR, w_pU, w_qI, w_qB, w_qZ, w_qU, w_qR, w_kV, q_icst, q_lcst, q_xR, q_ldI, q_ldR, q_ldL, q_bn, q_un, q_dv, q_fI, q_fR, q_aI, q_aR, q_aN, q_tn, q_cmp, q_cmz, q_cnt, q_ctt, q_cand, q_cor, q_vn, q_vI, q_vR, q_vL, q_kI, q_kR, q_kL, q_ckI, envN, argE, List.flatMap_cons, List.flatMap_nil, Value.category, junk, oadd, osub, omul, oand, oor, oxor, odiv, orem, oshl, oshr, oushr, omax, omin]
          simp [rk_i, rk_b, rk_o, st1, kill, Value.category, rcv, nog, fq_of (m_can hn _ _), fq_of (e_m_isPerson _ _ hn), b2_0, hn, ly166, zne, zeq]
          grind
        · simp only [f_mkF, w_sI, w_sR, w_sL, w_sC, w_sk, w_sbr, w_sco, w_rV, w_rI, w_rR, w_rL, w_dI, w_sO, w_sq, w_si, w_pI, w_pZ, w_pR, w_pU, w_qI, w_qB, w_qZ, w_qU, w_qR, w_kV, q_icst, q_lcst, q_xR, q_ldI, q_ldR, q_ldL, q_bn, q_un, q_dv, q_fI, q_fR, q_aI, q_aR, q_aN, q_tn, q_cmp, q_cmz, q_cnt, q_ctt, q_cand, q_cor, q_vn, q_vI, q_vR, q_vL, q_kI, q_kR, q_kL, q_ckI, envN, argE, List.flatMap_cons, List.flatMap_nil, Value.category, junk, oadd, osub, omul, oand, oor, oxor, odiv, orem, oshl, oshr, oushr, omax, omin]; simp [rk_i, rk_b, rk_o, st1, kill, Value.category, rcv, nog]
