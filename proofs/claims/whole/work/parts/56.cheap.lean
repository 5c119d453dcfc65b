/-! cheapest: both -/
theorem x_cheap {n : Nat} {h : Hp} (hn5 : n < 512) (i : INV LWc n h) {t fr : Nat} (ht : t < 4) (hfr : fr < 6) {w : Wd} {ra : Nat → Nat} (y : CY w (28 + 22 * t) ra h) (hno : W_no w = h.2.1 166 0) (hj : ∀ i j, i < 20 → j < 20 → ra i = ra j → i = j) {q p d : Int32} (hcb : CB h (nI (W_f w)) (nI fr) (nI t) q p) (hc2 : p ≠ q ∧ q ≠ frm (W_R w) (W_fo w) (W_n w) ∧ W_n w ≤ 18) (hd : 0 ≤ d ∧ d ≤ 1) (hpw : p ≠ whz w 0) (hst : ∀ l, l < 6 → WV (stg w q p (nI fr) (nI l))) {C : Nat → Nat → Int32} (hC : ∀ a b, a < 6 → b < 6 → h.2.1 (16 + a) b = C a b) : fq F_X10_cheapest [.ref 0, .int (nI (W_f w)), .int (nI fr), .int (nI t), .int q, .int p, .int d] h fun r h' => r = some (.int (cheA (rds C (fr0 fr) 5) (bst (rds C (fr0 fr) 5) (fun l => decide (whz (stg w q p (nI fr) (nI l)) 0 = p)) 6) d)) ∧ Fz (28 + 22 * t) ra (W_n w) h h' ∧ h'.2.1 (28 + 22 * t) 1 = nI (W_n w) ∧ IC (20 * n + 7) h' := by
  have hn := i.1.1
  have e1 := x_can1 i hcb ht y
  rw [b2_t hc2] at e1
  have k6 : (6 : Int32) = nI 6 := rfl
  have hT : 28 + 22 * t < 115 := by omega
  have tra := y.2.1.2.2.1 (W_n w + 1) (by omega)
  generalize hDD : rds C (fr0 fr) 5 = D
  generalize hmk : (fun l => decide (whz (stg w q p (nI fr) (nI l)) 0 = p)) = mk
  unfold F_X10_cheapest
  refine f_mkE [.ref 0, .int (nI (W_f w)), .int (nI fr), .int (nI t), .int q, .int p, .int d, junk, junk, junk, junk] rfl (by simp [argE, Value.category]) ?_
  rw [w_sq, w_si, q_cor]
  refine ev_F ?_ ⟨(fun z => by cases z), fun _ => ?_⟩
  · simp only [f_mkF, w_sI, w_sR, w_sL, w_sC, w_sk, w_sbr, w_sco, w_rV, w_rI, w_rR, w_rL, w_dI, w_sO, w_sq, w_si, w_pI, w_pZ, w_pR, w_pU, w_qI, w_qB, w_qZ, w_qU, w_qR, w_kV, q_icst, q_lcst, q_xR, q_ldI, q_ldR, q_ldL, q_bn, q_un, q_dv, q_fI, q_fR, q_aI, q_aR, q_aN, q_tn, q_cmp, q_cmz, q_cnt, q_ctt, q_cand, q_cor, q_vn, q_vI, q_vR, q_vL, q_kI, q_kR, q_kL, q_ckI, envN, argE, List.flatMap_cons, List.flatMap_nil, Value.category, junk, oadd, osub, omul, oand, oor, oxor, odiv, orem, oshl, oshr, oushr, omax, omin]
    simp [rk_i, rk_b, rk_o, st1, kill, Value.category, rcv, nog, hn, ly0, fq_of (e_x_isWithin _ _ _ _), fq_of e1, b2_0, hd, zeq, zne]
  rw [q_cnt, q_cmp, q_ldI]
  refine ⟨p, rfl, ?_⟩
  refine q_kIe [.ref 0, .int (nI (W_f w)), .int (nI t)] (by simp only [f_mkF, w_sI, w_sR, w_sL, w_sC, w_sk, w_sbr, w_sco, w_rV, w_rI, w_rR, w_rL, w_dI, w_sO, w_sq, w_si, w_pI, w_pZ, w_pR, w_pU, w_qI, w_qB, w_qZ, w_qU, w_qR, w_kV, q_icst, q_lcst, q_xR, q_ldI, q_ldR, q_ldL, q_bn, q_un, q_dv, q_fI, q_fR, q_aI, q_aR, q_aN, q_tn, q_cmp, q_cmz, q_cnt, q_ctt, q_cand, q_cor, q_vn, q_vI, q_vR, q_vL, q_kI, q_kR, q_kL, q_ckI, envN, argE, List.flatMap_cons, List.flatMap_nil, Value.category, junk, oadd, osub, omul, oand, oor, oxor, odiv, orem, oshl, oshr, oushr, omax, omin]; simp) (by simp [rcv, hn, ly0]) ?_
  refine fq_mono (x_judge y (by omega) (inv_ic i) ht rfl (by rw [i.2.1.1, hno])) ?_
  rintro r h1 ⟨rfl, fj, ic, cx, -⟩
  refine ⟨_, rfl, (fun z => by simp [hpw] at z), fun _ => w_sk2.mpr ?_⟩
  have hn1 := cx.1.1
  have p7 : h1.2.2 0 7 = some 14 := cx.1.2.1.at 7 rfl
  refine w_fz fun B hB Cc hCc => ?_
  simp only [f_mkF, w_sI, w_sR, w_sL, w_sC, w_sk, w_sbr, w_sco, w_rV, w_rI, w_rR, w_rL, w_dI, w_sO, w_sq, w_si, w_pI, w_pZ, w_pR, w_pU, w_qI, w_qB, w_qZ, w_qU, w_qR, w_kV, q_icst, q_lcst, q_xR, q_ldI, q_ldR, q_ldL, q_bn, q_un, q_dv, q_fI, q_fR, q_aI, q_aR, q_aN, q_tn, q_cmp, q_cmz, q_cnt, q_ctt, q_cand, q_cor, q_vn, q_vI, q_vR, q_vL, q_kI, q_kR, q_kL, q_ckI, envN, argE, List.flatMap_cons, List.flatMap_nil, Value.category, junk, oadd, osub, omul, oand, oor, oxor, odiv, orem, oshl, oshr, oushr, omax, omin]
  simp (disch := first | omega | simp) [rk_i, rk_b, rk_o, st1, kill, Value.category, rcv, nog, inI_b, nI_clamp, nI_ltI, nI_leI, nI_eq, nI_9, nI_6, nI_22, nI_12, nI_180, nI_add, nI_1, hn1, ly0, ly14, p7]
  refine fq_mono (x_reckon cx.1 hfr (C := C) fun a b ha hb => (fj.2.2 _ _ (by unfold SJ SX; omega)).trans (hC a b ha hb)) ?_
  rintro r h2 ⟨rfl, f2, e22⟩
  rw [hDD] at e22
  simp
  subst hB hCc
  have fk2 : Fk h h2 := fj.k.trans (Fk.of f2 fun x k z => Or.inl z)
  have y2 : CY w (28 + 22 * t) ra h2 := by
    obtain ⟨q1, q2, ⟨q4, q5, q6⟩, q9, q10, q11, q12⟩ := y.fj fj
    have tT := q2.1.2.1
    have tT2 := q2.1.2.2.1
    refine ⟨f2.ip q1, ⟨⟨f2.1.trans q2.1.1, q2.1.2.1, q2.1.2.2.1, q2.1.2.2.2.1, by rw [f2.2.1]; exact q2.1.2.2.2.2.1, q2.1.2.2.2.2.2⟩, ⟨by rw [f2.2.2 _ _ (by omega)]; exact q2.2.1.1, q2.2.1.2⟩, fun i hi => by rw [f2.2.1]; exact q2.2.2.1 i hi, fun i k hi hk => ?_⟩, ⟨by rw [f2.2.2 _ _ (by omega)]; exact q4, by rw [f2.2.2 _ _ (by omega)]; exact q5, by rw [f2.2.2 _ _ (by omega)]; exact q6⟩, fun k => by rw [f2.2.2 _ _ (by omega)]; exact q9 k, fun l k hl hk => by rw [f2.2.2 _ _ (by omega)]; exact q10 l k hl hk, fun l hl => ?_, q12⟩
    · have := q2.2.2.1 i (by omega)
      rw [f2.2.2 _ _ (by omega)]
      exact q2.2.2.2 i k hi hk
    · obtain ⟨la, z1, z2, z3⟩ := q11 l hl
      exact ⟨la, by rw [f2.2.1]; exact z1, z2, LX_e (fun a k h1 h2 => f2.2.2 a k (by unfold lawA at z2; omega)) z3⟩
  have hn2 := y2.1.1
  have h12 : h2.2.1 0 12 = W_no w := by rw [fk2.2.2 0 12 (by unfold SK2; omega), i.2.1.1, hno]
  have ic2 : IC (20 * n + 1) h2 := ic.e (f2.2.2 147 10 (by omega)) fun k => f2.2.2 155 k (by omega)
  refine w_fz fun B hB Cc hCc => ?_
  simp only [f_mkF, w_sI, w_sR, w_sL, w_sC, w_sk, w_sbr, w_sco, w_rV, w_rI, w_rR, w_rL, w_dI, w_sO, w_sq, w_si, w_pI, w_pZ, w_pR, w_pU, w_qI, w_qB, w_qZ, w_qU, w_qR, w_kV, q_icst, q_lcst, q_xR, q_ldI, q_ldR, q_ldL, q_bn, q_un, q_dv, q_fI, q_fR, q_aI, q_aR, q_aN, q_tn, q_cmp, q_cmz, q_cnt, q_ctt, q_cand, q_cor, q_vn, q_vI, q_vR, q_vL, q_kI, q_kR, q_kL, q_ckI, envN, argE, List.flatMap_cons, List.flatMap_nil, Value.category, junk, oadd, osub, omul, oand, oor, oxor, odiv, orem, oshl, oshr, oushr, omax, omin]
  simp (disch := first | omega | simp) [rk_i, rk_b, rk_o, st1, kill, Value.category, rcv, nog, inI_b, nI_clamp, nI_ltI, nI_leI, nI_eq, nI_9, nI_6, nI_22, nI_12, nI_180, nI_add, nI_1, hn2, ly0]
  refine fq_mono (x_stage y2 hj hc2.2.2 ht rfl h12 q p (nI fr)) ?_
  rintro r h3 ⟨rfl, f3, th3, ip3⟩
  simp [rk_i, rk_b, rk_o, st1, kill, Value.category, rcv, nog]
  subst hB hCc
  have fz3 : Fz (28 + 22 * t) ra (W_n w) h h3 := Fz.s fk2 f3
  have e223 : eq6 (h3.2.1 22) D := fun l hl => (f3.2.2.2 22 l (by have := y2.2.1.2.2.1 (W_n w) (by omega); omega) (by omega) (by omega)).trans (e22 l hl)
  have ic3 : IC (20 * n + 1) h3 := ic2.e (f3.2.2.2 147 10 (by have := y2.2.1.2.2.1 (W_n w) (by omega); omega) (by omega) (by omega)) fun k => f3.2.2.2 155 k (by have := y2.2.1.2.2.1 (W_n w) (by omega); omega) (by omega) (by omega)
  have y3 : CY (stg w q p (nI fr) (nI fr)) (28 + 22 * t) ra h3 := y2.st f3 (hst fr hfr) th3
  refine w_sqI (E' := [.ref 0, .int (nI (W_f w)), .int (nI fr), .int (nI t), .int q, .int p, .int d, .ref (ra (W_n w + 1)), .int (-2), junk, junk]) (-2) (by simp only [f_mkF, w_sI, w_sR, w_sL, w_sC, w_sk, w_sbr, w_sco, w_rV, w_rI, w_rR, w_rL, w_dI, w_sO, w_sq, w_si, w_pI, w_pZ, w_pR, w_pU, w_qI, w_qB, w_qZ, w_qU, w_qR, w_kV, q_icst, q_lcst, q_xR, q_ldI, q_ldR, q_ldL, q_bn, q_un, q_dv, q_fI, q_fR, q_aI, q_aR, q_aN, q_tn, q_cmp, q_cmz, q_cnt, q_ctt, q_cand, q_cor, q_vn, q_vI, q_vR, q_vL, q_kI, q_kR, q_kL, q_ckI, envN, argE, List.flatMap_cons, List.flatMap_nil, Value.category, junk, oadd, osub, omul, oand, oor, oxor, odiv, orem, oshl, oshr, oushr, omax, omin]; simp [rk_i, rk_b, rk_o, st1, kill, Value.category, rcv, nog]) rfl ?_
  refine w_sq.mpr ?_
  refine w_sqI (E' := [.ref 0, .int (nI (W_f w)), .int (nI fr), .int (nI t), .int q, .int p, .int d, .ref (ra (W_n w + 1)), .int (-2), .int (nI 0), junk]) (nI 0) (by simp only [f_mkF, w_sI, w_sR, w_sL, w_sC, w_sk, w_sbr, w_sco, w_rV, w_rI, w_rR, w_rL, w_dI, w_sO, w_sq, w_si, w_pI, w_pZ, w_pR, w_pU, w_qI, w_qB, w_qZ, w_qU, w_qR, w_kV, q_icst, q_lcst, q_xR, q_ldI, q_ldR, q_ldL, q_bn, q_un, q_dv, q_fI, q_fR, q_aI, q_aR, q_aN, q_tn, q_cmp, q_cmz, q_cnt, q_ctt, q_cand, q_cor, q_vn, q_vI, q_vR, q_vL, q_kI, q_kR, q_kL, q_ckI, envN, argE, List.flatMap_cons, List.flatMap_nil, Value.category, junk, oadd, osub, omul, oand, oor, oxor, odiv, orem, oshl, oshr, oushr, omax, omin]; simp [rk_i, rk_b, rk_o, st1, kill, Value.category, rcv, nog, nI_0]) rfl ?_
  refine wp_mono (w_lp (Q := fun o _ E1 h' => o = 0 ∧ (∃ x y, E1 = [.ref 0, .int (nI (W_f w)), .int (nI fr), .int (nI t), .int q, .int p, .int d, .ref (ra (W_n w + 1)), .int (ofB (-2) (bst D mk 6)), x, y]) ∧ Fz (28 + 22 * t) ra (W_n w) h h' ∧ eq6 (h'.2.1 22) D ∧ IC (20 * n + 7) h' ∧ ∃ l0, CY (stg w q p (nI fr) l0) (28 + 22 * t) ra h') (fun k E h' => ∃ l v10 l0, k = 6 - l ∧ l ≤ 6 ∧ l0 < 6 ∧ E = [.ref 0, .int (nI (W_f w)), .int (nI fr), .int (nI t), .int q, .int p, .int d, .ref (ra (W_n w + 1)), .int (ofB (-2) (bst D mk l)), .int (nI l), v10] ∧ v10.category = 1 ∧ Fz (28 + 22 * t) ra (W_n w) h h' ∧ eq6 (h'.2.1 22) D ∧ IC (20 * n + 1 + l) h' ∧ CY (stg w q p (nI fr) (nI l0)) (28 + 22 * t) ra h') ?_ 6 _ _ ⟨0, junk, fr, rfl, by omega, hfr, rfl, rfl, fz3, e223, ic3, y3⟩) ?_
  · rintro k E h' ⟨l, v10, l0, rfl, hl, hl0, rfl, c10, fz, e22, ic, yl⟩
    by_cases hl6 : l < 6
    · refine ev_T ?_ ⟨fun z => (by cases z), fun _ => ?_⟩
      · simp only [f_mkF, w_sI, w_sR, w_sL, w_sC, w_sk, w_sbr, w_sco, w_rV, w_rI, w_rR, w_rL, w_dI, w_sO, w_sq, w_si, w_pI, w_pZ, w_pR, w_pU, w_qI, w_qB, w_qZ, w_qU, w_qR, w_kV, q_icst, q_lcst, q_xR, q_ldI, q_ldR, q_ldL, q_bn, q_un, q_dv, q_fI, q_fR, q_aI, q_aR, q_aN, q_tn, q_cmp, q_cmz, q_cnt, q_ctt, q_cand, q_cor, q_vn, q_vI, q_vR, q_vL, q_kI, q_kR, q_kL, q_ckI, envN, argE, List.flatMap_cons, List.flatMap_nil, Value.category, junk, oadd, osub, omul, oand, oor, oxor, odiv, orem, oshl, oshr, oushr, omax, omin]
        simp (disch := first | omega | simp) [rk_i, rk_b, rk_o, st1, kill, Value.category, rcv, nog, inI_b, nI_clamp, nI_ltI, nI_leI, nI_eq, nI_9, nI_6, nI_22, nI_12, nI_180, nI_add, nI_1, k6, hl6]
      have hn' := yl.1.1
      have v := yl.2.1.2.2.1 (W_n w + 1) (by omega)
      have v4 : (LY (ra (W_n w + 1))).1 = 5 := v.2.2.2
      have v5 : ra (W_n w + 1) < 212 := by omega
      (refine w_fz fun B hB C hC => ?_); (simp only [f_mkF, w_sI, w_sR, w_sL, w_sC, w_sk, w_sbr, w_sco, w_rV, w_rI, w_rR, w_rL, w_dI, w_sO, w_sq, w_si, w_pI, w_pZ, w_pR, w_pU, w_qI, w_qB, w_qZ, w_qU, w_qR, w_kV, q_icst, q_lcst, q_xR, q_ldI, q_ldR, q_ldL, q_bn, q_un, q_dv, q_fI, q_fR, q_aI, q_aR, q_aN, q_tn, q_cmp, q_cmz, q_cnt, q_ctt, q_cand, q_cor, q_vn, q_vI, q_vR, q_vL, q_kI, q_kR, q_kL, q_ckI, envN, argE, List.flatMap_cons, List.flatMap_nil, Value.category, junk, oadd, osub, omul, oand, oor, oxor, odiv, orem, oshl, oshr, oushr, omax, omin]); (simp (disch := first | omega | simp) [rk_i, rk_b, rk_o, st1, kill, Value.category, rcv, nog, inI_b, nI_clamp, nI_ltI, nI_leI, nI_eq, nI_9, nI_6, nI_22, nI_12, nI_180, nI_add, nI_1, hn', v4, v5]); (subst hB hC)
      have y4 : CY (stg w q p (nI fr) (nI l)) (28 + 22 * t) ra (wI h' (ra (W_n w + 1)) 2 (nI l)) := by
        obtain ⟨q1, q2, ⟨q4, q5, q6⟩, q9, q10, q11, q12⟩ := yl
        have tT := ty9 q2.1.2.1 q2.1.2.2.1 q2.1.2.2.2.1
        have q2' : TH h' (28 + 22 * t) ra (W_n w + 2) (stR (W_R w) (W_n w) q p (nI fr) (nI l0) (W_no w) (W_wo w)) := q2
        refine ⟨q1, TH.land hj hc2.2.2 q2', ⟨by rw [wI_i, if_neg (by omega)]; exact q4, by rw [wI_i, if_neg (by omega)]; exact q5, by rw [wI_i, if_neg (by omega)]; exact q6⟩, fun k => by rw [wI_i, if_neg (by omega)]; exact q9 k, fun l k hl hk => by rw [wI_i, if_neg (by omega)]; exact q10 l k hl hk, fun l hl => ?_, hst l hl6⟩
        obtain ⟨la, z1, z2, z3⟩ := q11 l hl
        exact ⟨la, z1, z2, LX_e (fun a k h1 h2 => by rw [wI_i, if_neg (by unfold lawA at z2; omega)]) z3⟩
      have fz4 : Fz (28 + 22 * t) ra (W_n w) h (wI h' (ra (W_n w + 1)) 2 (nI l)) := fz.l
      have e224 : eq6 ((wI h' (ra (W_n w + 1)) 2 (nI l)).2.1 22) D := fun k hk => by rw [wI_o (by omega)]; exact e22 k hk
      have ic4 : IC (20 * n + 1 + l) (wI h' (ra (W_n w + 1)) 2 (nI l)) := ic.w (by omega) (by omega)
      generalize wI h' (ra (W_n w + 1)) 2 (nI l) = h4 at *
      have hn4 := y4.1.1
      have p7' : h4.2.2 0 7 = some 14 := y4.1.2.1.at 7 rfl
      have p1' : h4.2.2 14 1 = some 22 := y4.1.2.1.at 23 rfl
      have el := e224 l hl6
      have hmkl : mk l = decide (whz (stg w q p (nI fr) (nI l)) 0 = p) := by rw [← hmk]
      have hb6 : ∀ b, bst D mk l = some b → b < 6 := fun b hb => by have := bst_lt l b hb; omega
      have hbs : bst D mk (l + 1) = if D l ≠ -1 ∧ chp D (bst D mk l) l = true ∧ mk l = true then some l else bst D mk l := rfl
      refine w_sqI (E' := [.ref 0, .int (nI (W_f w)), .int (nI fr), .int (nI t), .int q, .int p, .int d, .ref (ra (W_n w + 1)), .int (ofB (-2) (bst D mk l)), .int (nI l), .int (b2 (chp D (bst D mk l) l = true))]) (b2 (chp D (bst D mk l) l = true)) ?_ (by simp [st1, kill, Value.category]) ?_
      · cases ho : bst D mk l with
        | none =>
          simp only [f_mkF, w_sI, w_sR, w_sL, w_sC, w_sk, w_sbr, w_sco, w_rV, w_rI, w_rR, w_rL, w_dI, w_sO, w_sq, w_si, w_pI, w_pZ, w_pR, w_pU, w_qI, w_qB, w_qZ, w_qU, w_qR, w_kV, q_icst, q_lcst, q_xR, q_ldI, q_ldR, q_ldL, q_bn, q_un, q_dv, q_fI, q_fR, q_aI, q_aR, q_aN, q_tn, q_cmp, q_cmz, q_cnt, q_ctt, q_cand, q_cor, q_vn, q_vI, q_vR, q_vL, q_kI, q_kR, q_kL, q_ckI, envN, argE, List.flatMap_cons, List.flatMap_nil, Value.category, junk, oadd, osub, omul, oand, oor, oxor, odiv, orem, oshl, oshr, oushr, omax, omin]
          simp [ofB, chp, b2]
        | some b =>
          have hb := hb6 b ho
          have eb := e224 b hb
          have hbm : ¬ nI b = -2 := fun z => by
            have z2 := congrArg Int32.toInt z
            rw [nI_toInt (by omega)] at z2
            have z3 : Int32.toInt (-2) = -2 := rfl
            omega
          simp only [f_mkF, w_sI, w_sR, w_sL, w_sC, w_sk, w_sbr, w_sco, w_rV, w_rI, w_rR, w_rL, w_dI, w_sO, w_sq, w_si, w_pI, w_pZ, w_pR, w_pU, w_qI, w_qB, w_qZ, w_qU, w_qR, w_kV, q_icst, q_lcst, q_xR, q_ldI, q_ldR, q_ldL, q_bn, q_un, q_dv, q_fI, q_fR, q_aI, q_aR, q_aN, q_tn, q_cmp, q_cmz, q_cnt, q_ctt, q_cand, q_cor, q_vn, q_vI, q_vR, q_vL, q_kI, q_kR, q_kL, q_ckI, envN, argE, List.flatMap_cons, List.flatMap_nil, Value.category, junk, oadd, osub, omul, oand, oor, oxor, odiv, orem, oshl, oshr, oushr, omax, omin]
          simp (disch := first | omega | simp) [rk_i, rk_b, rk_o, st1, kill, Value.category, rcv, nog, inI_b, nI_clamp, nI_ltI, nI_leI, nI_eq, nI_9, nI_6, nI_22, nI_12, nI_180, nI_add, nI_1, hn4, ly0, ly14, ly22, p7', p1', hl6, hb, ofB, chp, hbm, el, eb, b2]
          try grind
      have hnext : ∀ (h6 : Hp) (o : Option Nat) (v10 : Value), v10.category = 1 → o = bst D mk (l + 1) → Fz (28 + 22 * t) ra (W_n w) h h6 → eq6 (h6.2.1 22) D → IC (20 * n + 1 + l + 1) h6 → CY (stg w q p (nI fr) (nI l)) (28 + 22 * t) ra h6 → wp (sC 9 1) [.ref 0, .int (nI (W_f w)), .int (nI fr), .int (nI t), .int q, .int p, .int d, .ref (ra (W_n w + 1)), .int (ofB (-2) o), .int (nI l), v10] h6 fun o2 _ E2 h3 => o2 = 0 ∧ ∃ k2, k2 < 6 - l ∧ ∃ l v10 l0, k2 = 6 - l ∧ l ≤ 6 ∧ l0 < 6 ∧ E2 = [.ref 0, .int (nI (W_f w)), .int (nI fr), .int (nI t), .int q, .int p, .int d, .ref (ra (W_n w + 1)), .int (ofB (-2) (bst D mk l)), .int (nI l), v10] ∧ v10.category = 1 ∧ Fz (28 + 22 * t) ra (W_n w) h h3 ∧ eq6 (h3.2.1 22) D ∧ IC (20 * n + 1 + l) h3 ∧ CY (stg w q p (nI fr) (nI l0)) (28 + 22 * t) ra h3 := by
        intro h6 o v10 c10 ho f6 e6 i6 y6
        subst ho
        refine w_sCe (nI l) (nI (l + 1)) rfl (nI_1 _) rfl ⟨rfl, 6 - (l + 1), by omega, l + 1, v10, l, rfl, by omega, hl6, rfl, c10, f6, e6, i6, y6⟩
      by_cases c1 : D l ≠ -1 ∧ chp D (bst D mk l) l = true
      · rw [w_si, q_cand]
        refine ev_T ?_ ⟨fun _ => ?_, (fun z => by cases z)⟩
        · simp only [f_mkF, w_sI, w_sR, w_sL, w_sC, w_sk, w_sbr, w_sco, w_rV, w_rI, w_rR, w_rL, w_dI, w_sO, w_sq, w_si, w_pI, w_pZ, w_pR, w_pU, w_qI, w_qB, w_qZ, w_qU, w_qR, w_kV, q_icst, q_lcst, q_xR, q_ldI, q_ldR, q_ldL, q_bn, q_un, q_dv, q_fI, q_fR, q_aI, q_aR, q_aN, q_tn, q_cmp, q_cmz, q_cnt, q_ctt, q_cand, q_cor, q_vn, q_vI, q_vR, q_vL, q_kI, q_kR, q_kL, q_ckI, envN, argE, List.flatMap_cons, List.flatMap_nil, Value.category, junk, oadd, osub, omul, oand, oor, oxor, odiv, orem, oshl, oshr, oushr, omax, omin]
          simp (disch := first | omega | simp) [rk_i, rk_b, rk_o, st1, kill, Value.category, rcv, nog, inI_b, nI_clamp, nI_ltI, nI_leI, nI_eq, nI_9, nI_6, nI_22, nI_12, nI_180, nI_add, nI_1, hn4, ly0, ly14, ly22, p7', p1', hl6, el, c1.1, c1.2, b2]
        rw [q_cnt, q_cmp]
        refine q_kIe [.ref 0, .int (nI (W_f w)), .int (nI t)] (by simp only [f_mkF, w_sI, w_sR, w_sL, w_sC, w_sk, w_sbr, w_sco, w_rV, w_rI, w_rR, w_rL, w_dI, w_sO, w_sq, w_si, w_pI, w_pZ, w_pR, w_pU, w_qI, w_qB, w_qZ, w_qU, w_qR, w_kV, q_icst, q_lcst, q_xR, q_ldI, q_ldR, q_ldL, q_bn, q_un, q_dv, q_fI, q_fR, q_aI, q_aR, q_aN, q_tn, q_cmp, q_cmz, q_cnt, q_ctt, q_cand, q_cor, q_vn, q_vI, q_vR, q_vL, q_kI, q_kR, q_kL, q_ckI, envN, argE, List.flatMap_cons, List.flatMap_nil, Value.category, junk, oadd, osub, omul, oand, oor, oxor, odiv, orem, oshl, oshr, oushr, omax, omin]; simp) (by simp [rcv, hn4, ly0]) ?_
        have h12' : h4.2.1 0 12 = W_no (stg w q p (nI fr) (nI l)) := by
          rw [fz4.2.2.2 0 12 (by unfold SK2; omega) (by have := y4.2.1.2.2.1 (W_n w) (by omega); omega) (by omega) (by omega), i.2.1.1]
          exact hno.symm
        refine fq_mono (x_judge y4 (by omega) ic4 ht rfl h12') ?_
        rintro r h6 ⟨rfl, fj6, ic6, -⟩
        refine ⟨_, rfl, ?_⟩
        rw [q_ldI]
        refine ⟨p, rfl, ?_⟩
        have f6 := fz4.k hT fj6.k
        have e6 : eq6 (h6.2.1 22) D := fun k hk => (fj6.2.2 22 k (by unfold SJ SX; omega)).trans (e224 k hk)
        have y6 := y4.fj fj6
        by_cases c2 : whz (stg w q p (nI fr) (nI l)) 0 = p
        · refine ⟨fun _ => ?_, fun z => by simp [c2] at z⟩
          refine w_sIe (nI l) (by simp only [f_mkF, w_sI, w_sR, w_sL, w_sC, w_sk, w_sbr, w_sco, w_rV, w_rI, w_rR, w_rL, w_dI, w_sO, w_sq, w_si, w_pI, w_pZ, w_pR, w_pU, w_qI, w_qB, w_qZ, w_qU, w_qR, w_kV, q_icst, q_lcst, q_xR, q_ldI, q_ldR, q_ldL, q_bn, q_un, q_dv, q_fI, q_fR, q_aI, q_aR, q_aN, q_tn, q_cmp, q_cmz, q_cnt, q_ctt, q_cand, q_cor, q_vn, q_vI, q_vR, q_vL, q_kI, q_kR, q_kL, q_ckI, envN, argE, List.flatMap_cons, List.flatMap_nil, Value.category, junk, oadd, osub, omul, oand, oor, oxor, odiv, orem, oshl, oshr, oushr, omax, omin]; simp) rfl ⟨fun _ => hnext h6 (some l) _ rfl ?_ f6 e6 ic6 y6, (fun z => by cases z), fun z => absurd rfl z⟩
          rw [hbs, if_pos ⟨c1.1, c1.2, by rw [hmkl]; simp [c2]⟩]
        · refine ⟨fun z => by simp [c2] at z, fun _ => ?_⟩
          rw [w_sk]
          refine ⟨fun _ => hnext h6 (bst D mk l) _ rfl ?_ f6 e6 ic6 y6, (fun z => by cases z), fun z => absurd rfl z⟩
          rw [hbs, if_neg (fun z => by have := z.2.2; rw [hmkl] at this; simp [c2] at this)]
      · refine (w_siF ?_).mpr (w_sk.mpr ⟨fun _ => hnext h4 (bst D mk l) _ rfl ?_ fz4 e224 (ic4.le (by omega)) y4, (fun z => by cases z), fun z => absurd rfl z⟩)
        · by_cases c3 : D l = -1
          · simp only [f_mkF, w_sI, w_sR, w_sL, w_sC, w_sk, w_sbr, w_sco, w_rV, w_rI, w_rR, w_rL, w_dI, w_sO, w_sq, w_si, w_pI, w_pZ, w_pR, w_pU, w_qI, w_qB, w_qZ, w_qU, w_qR, w_kV, q_icst, q_lcst, q_xR, q_ldI, q_ldR, q_ldL, q_bn, q_un, q_dv, q_fI, q_fR, q_aI, q_aR, q_aN, q_tn, q_cmp, q_cmz, q_cnt, q_ctt, q_cand, q_cor, q_vn, q_vI, q_vR, q_vL, q_kI, q_kR, q_kL, q_ckI, envN, argE, List.flatMap_cons, List.flatMap_nil, Value.category, junk, oadd, osub, omul, oand, oor, oxor, odiv, orem, oshl, oshr, oushr, omax, omin]
            simp (disch := first | omega | simp) [rk_i, rk_b, rk_o, st1, kill, Value.category, rcv, nog, inI_b, nI_clamp, nI_ltI, nI_leI, nI_eq, nI_9, nI_6, nI_22, nI_12, nI_180, nI_add, nI_1, hn4, ly0, ly14, ly22, p7', p1', hl6, el, c3]
          · have c4 : ¬ chp D (bst D mk l) l = true := fun z => c1 ⟨c3, z⟩
            simp only [f_mkF, w_sI, w_sR, w_sL, w_sC, w_sk, w_sbr, w_sco, w_rV, w_rI, w_rR, w_rL, w_dI, w_sO, w_sq, w_si, w_pI, w_pZ, w_pR, w_pU, w_qI, w_qB, w_qZ, w_qU, w_qR, w_kV, q_icst, q_lcst, q_xR, q_ldI, q_ldR, q_ldL, q_bn, q_un, q_dv, q_fI, q_fR, q_aI, q_aR, q_aN, q_tn, q_cmp, q_cmz, q_cnt, q_ctt, q_cand, q_cor, q_vn, q_vI, q_vR, q_vL, q_kI, q_kR, q_kL, q_ckI, envN, argE, List.flatMap_cons, List.flatMap_nil, Value.category, junk, oadd, osub, omul, oand, oor, oxor, odiv, orem, oshl, oshr, oushr, omax, omin]
            simp (disch := first | omega | simp) [rk_i, rk_b, rk_o, st1, kill, Value.category, rcv, nog, inI_b, nI_clamp, nI_ltI, nI_leI, nI_eq, nI_9, nI_6, nI_22, nI_12, nI_180, nI_add, nI_1, hn4, ly0, ly14, ly22, p7', p1', hl6, el, c3, c4, b2]
        · rw [hbs, if_neg (fun z => c1 ⟨z.1, z.2.1⟩)]
    · have : l = 6 := by omega
      subst this
      refine ev_F ?_ ⟨fun _ => ⟨rfl, ⟨_, _, rfl⟩, fz, e22, ic.le (by omega), _, yl⟩, fun z => (by cases z)⟩
      simp only [f_mkF, w_sI, w_sR, w_sL, w_sC, w_sk, w_sbr, w_sco, w_rV, w_rI, w_rR, w_rL, w_dI, w_sO, w_sq, w_si, w_pI, w_pZ, w_pR, w_pU, w_qI, w_qB, w_qZ, w_qU, w_qR, w_kV, q_icst, q_lcst, q_xR, q_ldI, q_ldR, q_ldL, q_bn, q_un, q_dv, q_fI, q_fR, q_aI, q_aR, q_aN, q_tn, q_cmp, q_cmz, q_cnt, q_ctt, q_cand, q_cor, q_vn, q_vI, q_vR, q_vL, q_kI, q_kR, q_kL, q_ckI, envN, argE, List.flatMap_cons, List.flatMap_nil, Value.category, junk, oadd, osub, omul, oand, oor, oxor, odiv, orem, oshl, oshr, oushr, omax, omin]
      simp (disch := first | omega | simp) [rk_i, rk_b, rk_o, st1, kill, Value.category, rcv, nog, inI_b, nI_clamp, nI_ltI, nI_leI, nI_eq, nI_9, nI_6, nI_22, nI_12, nI_180, nI_add, nI_1, k6]
  · rintro o v E1 h6 ⟨rfl, ⟨x, z, rfl⟩, fz, e22, ic, l0, yl⟩
    refine ⟨fun _ => ?_, fun z => absurd rfl z⟩
    have hn6 := yl.1.1
    have a7 := yl.2.1.2.1.1
    have eu := x_unstage yl.1 (n := W_n w) ht a7
    refine w_sqS (fun E1 h7 => E1 = [.ref 0, .int (nI (W_f w)), .int (nI fr), .int (nI t), .int q, .int p, .int d, .ref (ra (W_n w + 1)), .int (ofB (-2) (bst D mk 6)), x, z] ∧ h7 = wI h6 (28 + 22 * t) 1 (nI (W_n w))) (w_kVe [.ref 0, .int (nI t)] (by simp only [f_mkF, w_sI, w_sR, w_sL, w_sC, w_sk, w_sbr, w_sco, w_rV, w_rI, w_rR, w_rL, w_dI, w_sO, w_sq, w_si, w_pI, w_pZ, w_pR, w_pU, w_qI, w_qB, w_qZ, w_qU, w_qR, w_kV, q_icst, q_lcst, q_xR, q_ldI, q_ldR, q_ldL, q_bn, q_un, q_dv, q_fI, q_fR, q_aI, q_aR, q_aN, q_tn, q_cmp, q_cmz, q_cnt, q_ctt, q_cand, q_cor, q_vn, q_vI, q_vR, q_vL, q_kI, q_kR, q_kL, q_ckI, envN, argE, List.flatMap_cons, List.flatMap_nil, Value.category, junk, oadd, osub, omul, oand, oor, oxor, odiv, orem, oshl, oshr, oushr, omax, omin]; simp) (by simp [rcv, hn6, ly0]) ((fq_of eu).mpr ⟨rfl, rfl, rfl, rfl⟩)) ?_
    rintro E1 h7 ⟨rfl, hh7⟩
    have fz7 : Fz (28 + 22 * t) ra (W_n w) h h7 := by
      rw [hh7]
      exact ⟨fz.1, fz.2.1, fz.2.2.1, fun a k z1 z2 z3 z4 => by rw [wI_i, if_neg z4]; exact fz.2.2.2 a k z1 z2 z3 z4⟩
    have z7 : h7.2.1 (28 + 22 * t) 1 = nI (W_n w) := by rw [hh7]; simp [wI_i]
    have e227 : eq6 (h7.2.1 22) D := fun k hk => by rw [hh7, wI_o (by omega)]; exact e22 k hk
    have ic7 : IC (20 * n + 7) h7 := by rw [hh7]; exact ic.w (by omega) (by omega)
    have ip7 : Ip h7 := by rw [hh7]; exact yl.1
    have hn7 := ip7.1
    have p7' : h7.2.2 0 7 = some 14 := ip7.2.1.at 7 rfl
    have p1' : h7.2.2 14 1 = some 22 := ip7.2.1.at 23 rfl
    rw [w_rI]
    refine ev_mono (P := fun v h8 => v = cheA D (bst D mk 6) d ∧ h8 = h7) ?_ ?_
    · cases ho : bst D mk 6 with
      | none =>
        simp only [f_mkF, w_sI, w_sR, w_sL, w_sC, w_sk, w_sbr, w_sco, w_rV, w_rI, w_rR, w_rL, w_dI, w_sO, w_sq, w_si, w_pI, w_pZ, w_pR, w_pU, w_qI, w_qB, w_qZ, w_qU, w_qR, w_kV, q_icst, q_lcst, q_xR, q_ldI, q_ldR, q_ldL, q_bn, q_un, q_dv, q_fI, q_fR, q_aI, q_aR, q_aN, q_tn, q_cmp, q_cmz, q_cnt, q_ctt, q_cand, q_cor, q_vn, q_vI, q_vR, q_vL, q_kI, q_kR, q_kL, q_ckI, envN, argE, List.flatMap_cons, List.flatMap_nil, Value.category, junk, oadd, osub, omul, oand, oor, oxor, odiv, orem, oshl, oshr, oushr, omax, omin]
        simp [ofB, cheA]
      | some b =>
        have hb := bst_lt 6 b ho
        have eb := e227 b hb
        have hbm : ¬ nI b = -2 := fun z => by
          have z2 := congrArg Int32.toInt z
          rw [nI_toInt (by omega)] at z2
          have z3 : Int32.toInt (-2) = -2 := rfl
          omega
        simp only [f_mkF, w_sI, w_sR, w_sL, w_sC, w_sk, w_sbr, w_sco, w_rV, w_rI, w_rR, w_rL, w_dI, w_sO, w_sq, w_si, w_pI, w_pZ, w_pR, w_pU, w_qI, w_qB, w_qZ, w_qU, w_qR, w_kV, q_icst, q_lcst, q_xR, q_ldI, q_ldR, q_ldL, q_bn, q_un, q_dv, q_fI, q_fR, q_aI, q_aR, q_aN, q_tn, q_cmp, q_cmz, q_cnt, q_ctt, q_cand, q_cor, q_vn, q_vI, q_vR, q_vL, q_kI, q_kR, q_kL, q_ckI, envN, argE, List.flatMap_cons, List.flatMap_nil, Value.category, junk, oadd, osub, omul, oand, oor, oxor, odiv, orem, oshl, oshr, oushr, omax, omin]
        by_cases hd0 : d = 0
        · simp [ofB, cheA, hd0]
        · simp (disch := first | omega | simp) [rk_i, rk_b, rk_o, st1, kill, Value.category, rcv, nog, inI_b, nI_clamp, nI_ltI, nI_leI, nI_eq, nI_9, nI_6, nI_22, nI_12, nI_180, nI_add, nI_1, hn7, ly0, ly14, ly22, p7', p1', hb, ofB, cheA, hbm, eb, hd0]
    · rintro v h8 ⟨rfl, rfl⟩
      exact Or.inr ⟨rfl, rfl, rfl, fz7, z7, ic7⟩
