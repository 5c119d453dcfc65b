/-! the class's reader: pieces, conditions -/
theorem x_pce1 {s : Nat → Nat} {e la c d dp r : Nat} (hC : SPd s e la c (FL d 3) dp fun p _ => cprP s r p) (hN : (dp = 6 ∧ r = 0) ∨ (dp < 6 ∧ ∃ r', r = r' + 1 ∧ GO2 e (pceP s r') ∧ GO2 e (cndP s (pceP s r')) ∧ SPd s e la c (FL d 2) (dp + 1) (pceP s r') ∧ SPd s e la c (FL d 0) (dp + 1) (cndP s (pceP s r')))) : SPd s e la c (FL (d + 1) 2) dp (pceP s r) := by
  intro h p k q hp hpe hf hK hk
  have hn := q.1
  have hA := q.2.1.2.2
  have r4 := q.2.1.2.1
  have hy := law_y hA
  have yl := hy.1
  have yl2 : la < 212 := by omega
  have he := q.2.2.2.1.2
  have hs := q.2.2.2.2.2.1
  have hz := q.2.2.2.2.2.2
  have e1 := x_sign q hp hpe
  generalize hV : pceP s r p k = V
  rw [FL2]
  refine f_mkE [.ref 146, .int (nI dp)] rfl (by simp [argE, Value.category]) ?_
  refine w_sq.mpr ((w_siF (by simp only [f_mkF, w_sI, w_sR, w_sL, w_sC, w_sk, w_sbr, w_sco, w_rV, w_rI, w_rR, w_rL, w_dI, w_sO, w_sq, w_si, w_pI, w_pZ, w_pR, w_pU, w_qI, w_qB, w_qZ, w_qU, w_qR, w_kV, q_icst, q_lcst, q_xR, q_ldI, q_ldR, q_ldL, q_bn, q_un, q_dv, q_fI, q_fR, q_aI, q_aR, q_aN, q_tn, q_cmp, q_cmz, q_cnt, q_ctt, q_cand, q_cor, q_vn, q_vI, q_vR, q_vL, q_kI, q_kR, q_kL, q_ckI, envN, argE, List.flatMap_cons, List.flatMap_nil, Value.category, junk, oadd, osub, omul, oand, oor, oxor, odiv, orem, oshl, oshr, oushr, omax, omin]; simp (disch := first | omega | simp) [rk_i, rk_b, rk_o, st1, kill, Value.category, rcv, nog, inI_b, nI_clamp, nI_ltI, nI_leI, nI_eq, nI_9, nI_6, nI_22, nI_12, nI_180, nI_add, nI_1, hn, ly146, hf])).mpr (w_sk2.mpr ?_))
  refine w_sqS (fun _ h1 => OC e la c h (k + c) V h1) ?_ (fun E1 h1 z => by rw [w_rV]; exact Or.inl ⟨rfl, rfl, rfl, z⟩)
  have n33 : nI (s p) = 33 ↔ s p = 33 := nI_eq (a := s p) (b := 33) (by have := hs p; omega) (by omega)
  have n40 : nI (s p) = 40 ↔ s p = 40 := nI_eq (a := s p) (b := 40) (by have := hs p; omega) (by omega)
  have f1 : Fr (SCl la (k + c)) h (wI h 146 2 (nI (p + 1))) := (Fr.refl h).w (by unfold SCl; omega)
  have q1 := q.c f1
  have e6 : F_X4_opens [.ref 146, .int (nI dp)] h = _ := x_opens q hp (d := dp) (by omega)
  rw [if_pos hf] at e6
  by_cases c1 : s p = 33
  · have n33' := n33.mpr c1
    have hlt : p < e := lt_e hz (by omega)
    refine (w_siT (by simp only [f_mkF, w_sI, w_sR, w_sL, w_sC, w_sk, w_sbr, w_sco, w_rV, w_rI, w_rR, w_rL, w_dI, w_sO, w_sq, w_si, w_pI, w_pZ, w_pR, w_pU, w_qI, w_qB, w_qZ, w_qU, w_qR, w_kV, q_icst, q_lcst, q_xR, q_ldI, q_ldR, q_ldL, q_bn, q_un, q_dv, q_fI, q_fR, q_aI, q_aR, q_aN, q_tn, q_cmp, q_cmz, q_cnt, q_ctt, q_cand, q_cor, q_vn, q_vI, q_vR, q_vL, q_kI, q_kR, q_kL, q_ckI, envN, argE, List.flatMap_cons, List.flatMap_nil, Value.category, junk, oadd, osub, omul, oand, oor, oxor, odiv, orem, oshl, oshr, oushr, omax, omin]; simp (disch := first | omega | simp) [rk_i, rk_b, rk_o, st1, kill, Value.category, rcv, nog, hn, ly146, fq_of e1, n33'])).mpr ?_
    rcases hN with ⟨rfl, rfl⟩ | ⟨hd, r', rfl, hG, hG2, hS, hS2⟩
    · rw [if_neg (by omega)] at e6
      rw [pceP, if_pos (Or.inl c1)] at hV
      subst hV
      refine w_siC false (wI h 146 3 (-1000 * nI 5 - nI p)) (by simp only [f_mkF, w_sI, w_sR, w_sL, w_sC, w_sk, w_sbr, w_sco, w_rV, w_rI, w_rR, w_rL, w_dI, w_sO, w_sq, w_si, w_pI, w_pZ, w_pR, w_pU, w_qI, w_qB, w_qZ, w_qU, w_qR, w_kV, q_icst, q_lcst, q_xR, q_ldI, q_ldR, q_ldL, q_bn, q_un, q_dv, q_fI, q_fR, q_aI, q_aR, q_aN, q_tn, q_cmp, q_cmz, q_cnt, q_ctt, q_cand, q_cor, q_vn, q_vI, q_vR, q_vL, q_kI, q_kR, q_kL, q_ckI, envN, argE, List.flatMap_cons, List.flatMap_nil, Value.category, junk, oadd, osub, omul, oand, oor, oxor, odiv, orem, oshl, oshr, oushr, omax, omin]; simp (disch := first | omega | simp) [rk_i, rk_b, rk_o, st1, kill, Value.category, rcv, nog, hn, ly146, fq_of e6]) (fun z => by cases z) (fun _ => ?_)
      rw [w_sk]
      exact ⟨rfl, OC_fail hA (Fr.refl h) hp hpe he (w := 5) (by omega) (by omega) hK (Nat.le_refl _) (by omega)⟩
    · rw [if_pos hd] at e6
      rw [pceP, if_pos c1] at hV
      refine w_siC true (wI h 146 2 (nI (p + 1))) (by simp only [f_mkF, w_sI, w_sR, w_sL, w_sC, w_sk, w_sbr, w_sco, w_rV, w_rI, w_rR, w_rL, w_dI, w_sO, w_sq, w_si, w_pI, w_pZ, w_pR, w_pU, w_qI, w_qB, w_qZ, w_qU, w_qR, w_kV, q_icst, q_lcst, q_xR, q_ldI, q_ldR, q_ldL, q_bn, q_un, q_dv, q_fI, q_fR, q_aI, q_aR, q_aN, q_tn, q_cmp, q_cmz, q_cnt, q_ctt, q_cand, q_cor, q_vn, q_vI, q_vR, q_vL, q_kI, q_kR, q_kL, q_ckI, envN, argE, List.flatMap_cons, List.flatMap_nil, Value.category, junk, oadd, osub, omul, oand, oor, oxor, odiv, orem, oshl, oshr, oushr, omax, omin]; simp (disch := first | omega | simp) [rk_i, rk_b, rk_o, st1, kill, Value.category, rcv, nog, hn, ly146, fq_of e6]) (fun _ => ?_) (fun z => by cases z)
      have s1 := hS (wI h 146 2 (nI (p + 1))) (p + 1) k q1 (by rw [wI_i, if_pos ⟨rfl, rfl⟩]) (by omega) (by rw [wI_i, if_neg (by omega)]; exact hf) (by rw [wI_i, if_neg (by omega)]; exact hK) (by omega)
      refine w_sqS (fun E1 h1 => E1 = [.ref 146, .int (nI dp)] ∧ OC e la c h (k + c) (pceP s r' (p + 1) k) h1) ?_ ?_
      · refine w_kVe [.ref 146, .int (nI (dp + 1))] (by simp only [f_mkF, w_sI, w_sR, w_sL, w_sC, w_sk, w_sbr, w_sco, w_rV, w_rI, w_rR, w_rL, w_dI, w_sO, w_sq, w_si, w_pI, w_pZ, w_pR, w_pU, w_qI, w_qB, w_qZ, w_qU, w_qR, w_kV, q_icst, q_lcst, q_xR, q_ldI, q_ldR, q_ldL, q_bn, q_un, q_dv, q_fI, q_fR, q_aI, q_aR, q_aN, q_tn, q_cmp, q_cmz, q_cnt, q_ctt, q_cand, q_cor, q_vn, q_vI, q_vR, q_vL, q_kI, q_kR, q_kL, q_ckI, envN, argE, List.flatMap_cons, List.flatMap_nil, Value.category, junk, oadd, osub, omul, oand, oor, oxor, odiv, orem, oshl, oshr, oushr, omax, omin]; simp (disch := first | omega | simp) [nI_1]) (by simp [rcv, wI_1, hn, ly146]) (fq_mono s1 ?_)
        rintro r h2 ⟨rfl, z1, z2⟩
        exact ⟨rfl, rfl, rfl, f1.trans z1, z2⟩
      · rintro E1 h4 ⟨rfl, o⟩
        have q4 := q.c o.1
        have hn4 := q4.1
        have r4 := q4.2.1.2.1
        have f4 := o.1
        cases hF : pceP s r' (p + 1) k with
        | error f =>
          rw [hF] at o hV
          simp only at hV
          subst hV
          obtain ⟨-, w2, w3, ⟨p', w4, w5⟩, K', w6, w7, w8⟩ := o
          rw [w_dI, q_kI]
          simp only [f_mkF, w_sI, w_sR, w_sL, w_sC, w_sk, w_sbr, w_sco, w_rV, w_rI, w_rR, w_rL, w_dI, w_sO, w_sq, w_si, w_pI, w_pZ, w_pR, w_pU, w_qI, w_qB, w_qZ, w_qU, w_qR, w_kV, q_icst, q_lcst, q_xR, q_ldI, q_ldR, q_ldL, q_bn, q_un, q_dv, q_fI, q_fR, q_aI, q_aR, q_aN, q_tn, q_cmp, q_cmz, q_cnt, q_ctt, q_cand, q_cor, q_vn, q_vI, q_vR, q_vL, q_kI, q_kR, q_kL, q_ckI, envN, argE, List.flatMap_cons, List.flatMap_nil, Value.category, junk, oadd, osub, omul, oand, oor, oxor, odiv, orem, oshl, oshr, oushr, omax, omin]
          simp (disch := first | omega | simp) [rk_i, rk_b, rk_o, st1, kill, Value.category, rcv, nog, hn4, ly146, r4, yl, yl2]
          refine fq_mono (x_addF q4 w8 w7 2 0) ?_
          rintro r h5 ⟨⟨v5, rfl⟩, z2, K2, z3, z4, z5⟩
          refine ⟨⟨v5, rfl⟩, f4.trans (z2.sub fun a k z => by unfold SCl; omega), ?_, ?_, ⟨p', w4, ?_⟩, K2, by omega, z4, z5⟩
          · rw [z2.2.2 146 3 (by omega)]; exact w2
          · rw [z2.2.2 146 3 (by omega)]; exact w3
          · rw [z2.2.2 146 2 (by omega)]; exact w5
        | ok x =>
          obtain ⟨p2, C2⟩ := x
          rw [hF] at o hV
          simp only at hV
          subst hV
          obtain ⟨-, w2, w3, w4, w5⟩ := o
          obtain ⟨g5, g6, g7⟩ := hG _ _ _ _ hF
          have a1 := x_addL q4 w4 (by omega) 2 0
          simp only [f_mkF, w_sI, w_sR, w_sL, w_sC, w_sk, w_sbr, w_sco, w_rV, w_rI, w_rR, w_rL, w_dI, w_sO, w_sq, w_si, w_pI, w_pZ, w_pR, w_pU, w_qI, w_qB, w_qZ, w_qU, w_qR, w_kV, q_icst, q_lcst, q_xR, q_ldI, q_ldR, q_ldL, q_bn, q_un, q_dv, q_fI, q_fR, q_aI, q_aR, q_aN, q_tn, q_cmp, q_cmz, q_cnt, q_ctt, q_cand, q_cor, q_vn, q_vI, q_vR, q_vL, q_kI, q_kR, q_kL, q_ckI, envN, argE, List.flatMap_cons, List.flatMap_nil, Value.category, junk, oadd, osub, omul, oand, oor, oxor, odiv, orem, oshl, oshr, oushr, omax, omin]
          simp (disch := first | omega | simp) [rk_i, rk_b, rk_o, st1, kill, Value.category, rcv, nog, hn4, ly146, r4, yl, yl2, fq_of a1]
          have f6 : Fr (SCl la (k + c + C2.length)) h4 (wI (wI (wI h4 (la + 1) (k + c + C2.length) 2) (la + 2) (k + c + C2.length) 0) la 4 (nI (k + c + C2.length + 1))) := (((Fr.refl h4).w (by unfold SCl; omega)).w (by unfold SCl; omega)).w (by unfold SCl; omega)
          refine ⟨f4.trans (f6.sc (by omega)), ?_, ?_, ?_, CC.app (w5.c hA f6 (by omega)) (CC.one ?_ (fun z => ?_) (fun z => ?_))⟩
          · rw [wI_i, if_neg (by omega), wI_i, if_neg (by omega), wI_i, if_neg (by omega)]; exact w2
          · rw [wI_i, if_neg (by omega), wI_i, if_neg (by omega), wI_i, if_neg (by omega)]; exact w3
          · rw [wI_i, if_pos ⟨rfl, rfl⟩]; simp only [List.length_append, List.length_singleton]; congr 1
          · rw [wI_i, if_neg (by omega), wI_i, if_neg (by omega), wI_i, if_pos ⟨rfl, by omega⟩]; rfl
          · simp only at z; omega
          · simp only at z; omega
  · have n33' : ¬ nI (s p) = 33 := fun z => c1 (n33.mp z)
    refine (w_siF (by simp only [f_mkF, w_sI, w_sR, w_sL, w_sC, w_sk, w_sbr, w_sco, w_rV, w_rI, w_rR, w_rL, w_dI, w_sO, w_sq, w_si, w_pI, w_pZ, w_pR, w_pU, w_qI, w_qB, w_qZ, w_qU, w_qR, w_kV, q_icst, q_lcst, q_xR, q_ldI, q_ldR, q_ldL, q_bn, q_un, q_dv, q_fI, q_fR, q_aI, q_aR, q_aN, q_tn, q_cmp, q_cmz, q_cnt, q_ctt, q_cand, q_cor, q_vn, q_vI, q_vR, q_vL, q_kI, q_kR, q_kL, q_ckI, envN, argE, List.flatMap_cons, List.flatMap_nil, Value.category, junk, oadd, osub, omul, oand, oor, oxor, odiv, orem, oshl, oshr, oushr, omax, omin]; simp (disch := first | omega | simp) [rk_i, rk_b, rk_o, st1, kill, Value.category, rcv, nog, hn, ly146, fq_of e1, n33'])).mpr ?_
    by_cases c2 : s p = 40
    · have n40' := n40.mpr c2
      have hlt : p < e := lt_e hz (by omega)
      refine (w_siT (by simp only [f_mkF, w_sI, w_sR, w_sL, w_sC, w_sk, w_sbr, w_sco, w_rV, w_rI, w_rR, w_rL, w_dI, w_sO, w_sq, w_si, w_pI, w_pZ, w_pR, w_pU, w_qI, w_qB, w_qZ, w_qU, w_qR, w_kV, q_icst, q_lcst, q_xR, q_ldI, q_ldR, q_ldL, q_bn, q_un, q_dv, q_fI, q_fR, q_aI, q_aR, q_aN, q_tn, q_cmp, q_cmz, q_cnt, q_ctt, q_cand, q_cor, q_vn, q_vI, q_vR, q_vL, q_kI, q_kR, q_kL, q_ckI, envN, argE, List.flatMap_cons, List.flatMap_nil, Value.category, junk, oadd, osub, omul, oand, oor, oxor, odiv, orem, oshl, oshr, oushr, omax, omin]; simp (disch := first | omega | simp) [rk_i, rk_b, rk_o, st1, kill, Value.category, rcv, nog, hn, ly146, fq_of e1, n40'])).mpr ?_
      rcases hN with ⟨rfl, rfl⟩ | ⟨hd, r', rfl, hG, hG2, hS, hS2⟩
      · rw [if_neg (by omega)] at e6
        rw [pceP, if_pos (Or.inr c2)] at hV
        subst hV
        refine w_siC false (wI h 146 3 (-1000 * nI 5 - nI p)) (by simp only [f_mkF, w_sI, w_sR, w_sL, w_sC, w_sk, w_sbr, w_sco, w_rV, w_rI, w_rR, w_rL, w_dI, w_sO, w_sq, w_si, w_pI, w_pZ, w_pR, w_pU, w_qI, w_qB, w_qZ, w_qU, w_qR, w_kV, q_icst, q_lcst, q_xR, q_ldI, q_ldR, q_ldL, q_bn, q_un, q_dv, q_fI, q_fR, q_aI, q_aR, q_aN, q_tn, q_cmp, q_cmz, q_cnt, q_ctt, q_cand, q_cor, q_vn, q_vI, q_vR, q_vL, q_kI, q_kR, q_kL, q_ckI, envN, argE, List.flatMap_cons, List.flatMap_nil, Value.category, junk, oadd, osub, omul, oand, oor, oxor, odiv, orem, oshl, oshr, oushr, omax, omin]; simp (disch := first | omega | simp) [rk_i, rk_b, rk_o, st1, kill, Value.category, rcv, nog, hn, ly146, fq_of e6]) (fun z => by cases z) (fun _ => ?_)
        rw [w_sk]
        exact ⟨rfl, OC_fail hA (Fr.refl h) hp hpe he (w := 5) (by omega) (by omega) hK (Nat.le_refl _) (by omega)⟩
      · rw [if_pos hd] at e6
        rw [pceP, if_neg c1, if_pos c2] at hV
        refine w_siC true (wI h 146 2 (nI (p + 1))) (by simp only [f_mkF, w_sI, w_sR, w_sL, w_sC, w_sk, w_sbr, w_sco, w_rV, w_rI, w_rR, w_rL, w_dI, w_sO, w_sq, w_si, w_pI, w_pZ, w_pR, w_pU, w_qI, w_qB, w_qZ, w_qU, w_qR, w_kV, q_icst, q_lcst, q_xR, q_ldI, q_ldR, q_ldL, q_bn, q_un, q_dv, q_fI, q_fR, q_aI, q_aR, q_aN, q_tn, q_cmp, q_cmz, q_cnt, q_ctt, q_cand, q_cor, q_vn, q_vI, q_vR, q_vL, q_kI, q_kR, q_kL, q_ckI, envN, argE, List.flatMap_cons, List.flatMap_nil, Value.category, junk, oadd, osub, omul, oand, oor, oxor, odiv, orem, oshl, oshr, oushr, omax, omin]; simp (disch := first | omega | simp) [rk_i, rk_b, rk_o, st1, kill, Value.category, rcv, nog, hn, ly146, fq_of e6]) (fun _ => ?_) (fun z => by cases z)
        have s1 := hS2 (wI h 146 2 (nI (p + 1))) (p + 1) k q1 (by rw [wI_i, if_pos ⟨rfl, rfl⟩]) (by omega) (by rw [wI_i, if_neg (by omega)]; exact hf) (by rw [wI_i, if_neg (by omega)]; exact hK) (by omega)
        refine w_sqS (fun E1 h1 => E1 = [.ref 146, .int (nI dp)] ∧ OC e la c h (k + c) (cndP s (pceP s r') (p + 1) k) h1) ?_ ?_
        · refine w_kVe [.ref 146, .int (nI (dp + 1))] (by simp only [f_mkF, w_sI, w_sR, w_sL, w_sC, w_sk, w_sbr, w_sco, w_rV, w_rI, w_rR, w_rL, w_dI, w_sO, w_sq, w_si, w_pI, w_pZ, w_pR, w_pU, w_qI, w_qB, w_qZ, w_qU, w_qR, w_kV, q_icst, q_lcst, q_xR, q_ldI, q_ldR, q_ldL, q_bn, q_un, q_dv, q_fI, q_fR, q_aI, q_aR, q_aN, q_tn, q_cmp, q_cmz, q_cnt, q_ctt, q_cand, q_cor, q_vn, q_vI, q_vR, q_vL, q_kI, q_kR, q_kL, q_ckI, envN, argE, List.flatMap_cons, List.flatMap_nil, Value.category, junk, oadd, osub, omul, oand, oor, oxor, odiv, orem, oshl, oshr, oushr, omax, omin]; simp (disch := first | omega | simp) [nI_1]) (by simp [rcv, wI_1, hn, ly146]) (fq_mono s1 ?_)
          rintro r h2 ⟨rfl, z1, z2⟩
          exact ⟨rfl, rfl, rfl, f1.trans z1, z2⟩
        · rintro E1 h1 ⟨rfl, o⟩
          have hn1 : h1.1 = 212 := (q.c o.1).1
          have x1 := OC_exp q o (sg := 41) (by omega) fun p' C z => by have := hG2 _ _ _ _ z; omega
          refine w_kVe [.ref 146, .int (nI 41)] (by simp only [f_mkF, w_sI, w_sR, w_sL, w_sC, w_sk, w_sbr, w_sco, w_rV, w_rI, w_rR, w_rL, w_dI, w_sO, w_sq, w_si, w_pI, w_pZ, w_pR, w_pU, w_qI, w_qB, w_qZ, w_qU, w_qR, w_kV, q_icst, q_lcst, q_xR, q_ldI, q_ldR, q_ldL, q_bn, q_un, q_dv, q_fI, q_fR, q_aI, q_aR, q_aN, q_tn, q_cmp, q_cmz, q_cnt, q_ctt, q_cand, q_cor, q_vn, q_vI, q_vR, q_vL, q_kI, q_kR, q_kL, q_ckI, envN, argE, List.flatMap_cons, List.flatMap_nil, Value.category, junk, oadd, osub, omul, oand, oor, oxor, odiv, orem, oshl, oshr, oushr, omax, omin]; simp; rfl) (by simp [rcv, hn1, ly146]) (fq_mono x1 ?_)
          rintro r h2 ⟨rfl, z⟩
          rw [← hV]
          exact ⟨rfl, rfl, z⟩
    · have n40' : ¬ nI (s p) = 40 := fun z => c2 (n40.mp z)
      refine (w_siF (by simp only [f_mkF, w_sI, w_sR, w_sL, w_sC, w_sk, w_sbr, w_sco, w_rV, w_rI, w_rR, w_rL, w_dI, w_sO, w_sq, w_si, w_pI, w_pZ, w_pR, w_pU, w_qI, w_qB, w_qZ, w_qU, w_qR, w_kV, q_icst, q_lcst, q_xR, q_ldI, q_ldR, q_ldL, q_bn, q_un, q_dv, q_fI, q_fR, q_aI, q_aR, q_aN, q_tn, q_cmp, q_cmz, q_cnt, q_ctt, q_cand, q_cor, q_vn, q_vI, q_vR, q_vL, q_kI, q_kR, q_kL, q_ckI, envN, argE, List.flatMap_cons, List.flatMap_nil, Value.category, junk, oadd, osub, omul, oand, oor, oxor, odiv, orem, oshl, oshr, oushr, omax, omin]; simp (disch := first | omega | simp) [rk_i, rk_b, rk_o, st1, kill, Value.category, rcv, nog, hn, ly146, fq_of e1, n40'])).mpr ?_
      have hV2 : cprP s r p = V := by
        rw [← hV]
        cases r with
        | zero => rw [pceP, if_neg (fun z => z.elim c1 c2)]
        | succ r => rw [pceP, if_neg c1, if_neg c2]
      rw [← hV2]
      refine w_kVe [.ref 146, .int (nI dp)] (by simp only [f_mkF, w_sI, w_sR, w_sL, w_sC, w_sk, w_sbr, w_sco, w_rV, w_rI, w_rR, w_rL, w_dI, w_sO, w_sq, w_si, w_pI, w_pZ, w_pR, w_pU, w_qI, w_qB, w_qZ, w_qU, w_qR, w_kV, q_icst, q_lcst, q_xR, q_ldI, q_ldR, q_ldL, q_bn, q_un, q_dv, q_fI, q_fR, q_aI, q_aR, q_aN, q_tn, q_cmp, q_cmz, q_cnt, q_ctt, q_cand, q_cor, q_vn, q_vI, q_vR, q_vL, q_kI, q_kR, q_kL, q_ckI, envN, argE, List.flatMap_cons, List.flatMap_nil, Value.category, junk, oadd, osub, omul, oand, oor, oxor, odiv, orem, oshl, oshr, oushr, omax, omin]; simp) (by simp [rcv, hn, ly146]) (fq_mono (hC h p k q hp hpe hf hK hk) ?_)
      rintro r h2 ⟨rfl, z⟩
      exact ⟨rfl, rfl, z⟩
theorem x_pce {s : Nat → Nat} {e la c : Nat} (hz : ∀ p, e ≤ p → s p = 0) : ∀ r, r ≤ 6 → ∀ d, 3 * r + 6 ≤ d → SPd s e la c (FL d 2) (6 - r) (pceP s r) := by
  intro r
  induction r with
  | zero =>
    intro _ d hd
    obtain ⟨d, rfl⟩ : ∃ d', d = d' + 2 := ⟨d - 2, by omega⟩
    exact x_pce1 (x_cpr hz (x_sum hz 0 (by omega) d (by omega))) (Or.inl ⟨rfl, rfl⟩)
  | succ r ih =>
    intro hr d hd
    obtain ⟨d, rfl⟩ : ∃ d', d = d' + 3 := ⟨d - 3, by omega⟩
    have e6 : 6 - (r + 1) + 1 = 6 - r := by omega
    have g0 := GO_pce hz r
    refine x_pce1 (x_cpr hz (x_sum hz (r + 1) hr (d + 1) (by omega))) (Or.inr ⟨by omega, r, rfl, g0, GO_cnd hz r, ?_, ?_⟩)
    · rw [e6]; exact ih (by omega) _ (by omega)
    · rw [e6, JB0]
      exact x_join (GO_join g0) (by rw [JB1]; exact x_join g0 (ih (by omega) d (by omega)) (by omega) (by omega)) (by omega) (by omega)
theorem x_cnd {s : Nat → Nat} {e la c : Nat} (hz : ∀ p, e ≤ p → s p = 0) : SPd s e la c (FL 60 0) 1 (cndP s (pceP s 5)) := by
  have g0 := GO_pce hz 5
  rw [JB0]
  exact x_join (GO_join g0) (by rw [JB1]; exact x_join g0 (x_pce hz 5 (by omega) 58 (by omega)) (by omega) (by omega)) (by omega) (by omega)
/-- where there is a fault, nothing is done -/
theorem x_nop {s : Nat → Nat} {e la : Nat} {h : Hp} (q : RX s e la h) (hf : h.2.1 146 3 ≠ 0) {p : Nat} (hp : h.2.1 146 2 = nI p) (hpe : p ≤ e) {K : Nat} (hK : h.2.1 la 4 = nI K) (hk : K ≤ 160) (dp : Nat) : FL 60 0 [.ref 146, .int (nI dp)] h = some (none, h) := by
  have hn := q.1
  have r4 := q.2.1.2.1
  have hy := law_y q.2.1.2.2
  have yl := hy.1
  have yl2 : la < 212 := by omega
  have z2 : FL 58 2 [.ref 146, .int (nI dp)] h = some (none, h) := by
    rw [← fq_eq, FL2]
    refine f_mkE [.ref 146, .int (nI dp)] rfl (by simp [argE, Value.category]) ?_
    refine w_sq.mpr ((w_siT (by simp only [f_mkF, w_sI, w_sR, w_sL, w_sC, w_sk, w_sbr, w_sco, w_rV, w_rI, w_rR, w_rL, w_dI, w_sO, w_sq, w_si, w_pI, w_pZ, w_pR, w_pU, w_qI, w_qB, w_qZ, w_qU, w_qR, w_kV, q_icst, q_lcst, q_xR, q_ldI, q_ldR, q_ldL, q_bn, q_un, q_dv, q_fI, q_fR, q_aI, q_aR, q_aN, q_tn, q_cmp, q_cmz, q_cnt, q_ctt, q_cand, q_cor, q_vn, q_vI, q_vR, q_vL, q_kI, q_kR, q_kL, q_ckI, envN, argE, List.flatMap_cons, List.flatMap_nil, Value.category, junk, oadd, osub, omul, oand, oor, oxor, odiv, orem, oshl, oshr, oushr, omax, omin]; simp (disch := first | omega | simp) [rk_i, rk_b, rk_o, st1, kill, Value.category, rcv, nog, inI_b, nI_clamp, nI_ltI, nI_leI, nI_eq, nI_9, nI_6, nI_22, nI_12, nI_180, nI_add, nI_1, hn, ly146, hf])).mpr ?_)
    simp only [f_mkF, w_sI, w_sR, w_sL, w_sC, w_sk, w_sbr, w_sco, w_rV, w_rI, w_rR, w_rL, w_dI, w_sO, w_sq, w_si, w_pI, w_pZ, w_pR, w_pU, w_qI, w_qB, w_qZ, w_qU, w_qR, w_kV, q_icst, q_lcst, q_xR, q_ldI, q_ldR, q_ldL, q_bn, q_un, q_dv, q_fI, q_fR, q_aI, q_aR, q_aN, q_tn, q_cmp, q_cmz, q_cnt, q_ctt, q_cand, q_cor, q_vn, q_vI, q_vR, q_vL, q_kI, q_kR, q_kL, q_ckI, envN, argE, List.flatMap_cons, List.flatMap_nil, Value.category, junk, oadd, osub, omul, oand, oor, oxor, odiv, orem, oshl, oshr, oushr, omax, omin]
    simp
  have zj : ∀ (G : FN) (sg st : Int32), G [.ref 146, .int (nI dp)] h = some (none, h) → JB G sg st [.ref 146, .int (nI dp)] h = some (none, h) := by
    intro G sg st hG
    rw [← fq_eq]
    unfold JB
    refine f_mkE [.ref 146, .int (nI dp), junk, junk] rfl (by simp [argE, Value.category]) ?_
    refine w_sqI (E' := [.ref 146, .int (nI dp), .int (-1), junk]) (-1) (by simp only [f_mkF, w_sI, w_sR, w_sL, w_sC, w_sk, w_sbr, w_sco, w_rV, w_rI, w_rR, w_rL, w_dI, w_sO, w_sq, w_si, w_pI, w_pZ, w_pR, w_pU, w_qI, w_qB, w_qZ, w_qU, w_qR, w_kV, q_icst, q_lcst, q_xR, q_ldI, q_ldR, q_ldL, q_bn, q_un, q_dv, q_fI, q_fR, q_aI, q_aR, q_aN, q_tn, q_cmp, q_cmz, q_cnt, q_ctt, q_cand, q_cor, q_vn, q_vI, q_vR, q_vL, q_kI, q_kR, q_kL, q_ckI, envN, argE, List.flatMap_cons, List.flatMap_nil, Value.category, junk, oadd, osub, omul, oand, oor, oxor, odiv, orem, oshl, oshr, oushr, omax, omin]; simp) rfl ?_
    refine w_sqS (fun E1 h1 => E1 = [.ref 146, .int (nI dp), .int (-1), junk] ∧ h1 = h) (w_kVe [.ref 146, .int (nI dp)] (by simp only [f_mkF, w_sI, w_sR, w_sL, w_sC, w_sk, w_sbr, w_sco, w_rV, w_rI, w_rR, w_rL, w_dI, w_sO, w_sq, w_si, w_pI, w_pZ, w_pR, w_pU, w_qI, w_qB, w_qZ, w_qU, w_qR, w_kV, q_icst, q_lcst, q_xR, q_ldI, q_ldR, q_ldL, q_bn, q_un, q_dv, q_fI, q_fR, q_aI, q_aR, q_aN, q_tn, q_cmp, q_cmz, q_cnt, q_ctt, q_cand, q_cor, q_vn, q_vI, q_vR, q_vL, q_kI, q_kR, q_kL, q_ckI, envN, argE, List.flatMap_cons, List.flatMap_nil, Value.category, junk, oadd, osub, omul, oand, oor, oxor, odiv, orem, oshl, oshr, oushr, omax, omin]; simp) (by simp [rcv, hn, ly146]) ((fq_of hG).mpr ⟨rfl, rfl, rfl, rfl⟩)) ?_
    rintro E1 h1 ⟨rfl, rfl⟩
    refine w_sqS (fun E1 h2 => E1 = [.ref 146, .int (nI dp), .int (-1), .int (nI 0)] ∧ h2 = h1) ?_ ?_
    · refine w_sqN (w_sIe 0 (by simp only [f_mkF, w_sI, w_sR, w_sL, w_sC, w_sk, w_sbr, w_sco, w_rV, w_rI, w_rR, w_rL, w_dI, w_sO, w_sq, w_si, w_pI, w_pZ, w_pR, w_pU, w_qI, w_qB, w_qZ, w_qU, w_qR, w_kV, q_icst, q_lcst, q_xR, q_ldI, q_ldR, q_ldL, q_bn, q_un, q_dv, q_fI, q_fR, q_aI, q_aR, q_aN, q_tn, q_cmp, q_cmz, q_cnt, q_ctt, q_cand, q_cor, q_vn, q_vI, q_vR, q_vL, q_kI, q_kR, q_kL, q_ckI, envN, argE, List.flatMap_cons, List.flatMap_nil, Value.category, junk, oadd, osub, omul, oand, oor, oxor, odiv, orem, oshl, oshr, oushr, omax, omin]; simp) rfl ⟨rfl, ?_⟩)
      refine w_for (lo := 0) (hi := 160) (fun n E h' => h' = h1 ∧ n = 0 ∧ E = [.ref 146, .int (nI dp), .int (-1), .int (nI 0)]) (fun _ _ _ => False) (by omega) ⟨rfl, rfl, rfl⟩ ?_ (fun _ _ _ _ _ z => z.elim)
      rintro n E h' n1 n2 ⟨rfl, rfl, rfl⟩
      refine ev_F (ev_mono (q_go q (n := 0) rfl rfl (by omega) false (fun _ z => absurd z hf)) ?_) ⟨rfl, (fun z => by cases z), fun _ => ⟨rfl, rfl, rfl⟩⟩
      rintro t h3 ⟨rfl, rfl⟩
      simp
    · rintro E1 h2 ⟨rfl, rfl⟩
      refine w_sqS (fun _ h3 => h3 = h2) ?_ (fun E1 h1 z => by rw [w_rV]; exact Or.inl ⟨rfl, rfl, rfl, z⟩)
      refine w_kVe [.ref la, .int (-1)] (by simp only [f_mkF, w_sI, w_sR, w_sL, w_sC, w_sk, w_sbr, w_sco, w_rV, w_rI, w_rR, w_rL, w_dI, w_sO, w_sq, w_si, w_pI, w_pZ, w_pR, w_pU, w_qI, w_qB, w_qZ, w_qU, w_qR, w_kV, q_icst, q_lcst, q_xR, q_ldI, q_ldR, q_ldL, q_bn, q_un, q_dv, q_fI, q_fR, q_aI, q_aR, q_aN, q_tn, q_cmp, q_cmz, q_cnt, q_ctt, q_cand, q_cor, q_vn, q_vI, q_vR, q_vL, q_kI, q_kR, q_kL, q_ckI, envN, argE, List.flatMap_cons, List.flatMap_nil, Value.category, junk, oadd, osub, omul, oand, oor, oxor, odiv, orem, oshl, oshr, oushr, omax, omin]; simp (disch := first | omega | simp) [rk_i, rk_b, rk_o, st1, kill, Value.category, rcv, nog, hn, ly146, r4]) (by simp [rcv, hn, yl, yl2]) (fq_mono (x_ends q hK hk (S := []) List.Pairwise.nil (fun y hy => by simp at hy) rfl) ?_)
      rintro r h3 ⟨rfl, t1, t2⟩
      refine ⟨rfl, rfl, ?_⟩
      obtain ⟨u1, u2, u3⟩ := t1
      refine Prod.ext u1 (Prod.ext ?_ u2)
      funext a j
      exact u3 a j (by simp)
  rw [JB0]; exact zj _ _ _ (by rw [JB1]; exact zj _ _ _ z2)
