/-! the class's reader: comparisons; chains of skips -/
theorem cmp_c : ∀ x, x < 256 → cmpP x ≠ 0 → x ≠ 0 ∧ cop (cmpP x) = nI x ∧ 7 ≤ cmpP x ∧ cmpP x ≤ 9 := by decide +kernel
theorem cmp_e : ∀ x, x < 256 → (cmpP x = 0 ↔ ¬ x = 60 ∧ ¬ x = 62 ∧ ¬ x = 61) := by decide +kernel
theorem x_cpr {s : Nat → Nat} {e la c d dp r : Nat} (hz : ∀ p, e ≤ p → s p = 0) (hS : SPd s e la c (FL d 4) dp fun p _ => sumP s r p) : SPd s e la c (FL (d + 1) 3) dp fun p _ => cprP s r p := by
  intro h p k q hp hpe hf hK hk
  show fq (FL (d + 1) 3) [.ref 146, .int (nI dp)] h fun o h' => o = none ∧ OC e la c h (k + c) (cprP s r p) h'
  have hG := GO_sum hz r
  have hn := q.1
  have hA := q.2.1.2.2
  have hy := law_y hA
  have yl := hy.1
  have yl2 : la < 212 := by omega
  have he := q.2.2.2.1.2
  have hs := q.2.2.2.2.2.1
  rw [FL3]
  refine f_mkE [.ref 146, .int (nI dp), junk] rfl (by simp [argE, Value.category]) ?_
  refine w_sqS (fun E1 h1 => E1 = [.ref 146, .int (nI dp), junk] ∧ OC e la c h (k + c) (sumP s r p) h1) (w_kVe [.ref 146, .int (nI dp)] (by simp only [f_mkF, w_sI, w_sR, w_sL, w_sC, w_sk, w_sbr, w_sco, w_rV, w_rI, w_rR, w_rL, w_dI, w_sO, w_sq, w_si, w_pI, w_pZ, w_pR, w_pU, w_qI, w_qB, w_qZ, w_qU, w_qR, w_kV, q_icst, q_lcst, q_xR, q_ldI, q_ldR, q_ldL, q_bn, q_un, q_dv, q_fI, q_fR, q_aI, q_aR, q_aN, q_tn, q_cmp, q_cmz, q_cnt, q_ctt, q_cand, q_cor, q_vn, q_vI, q_vR, q_vL, q_kI, q_kR, q_kL, q_ckI, envN, argE, List.flatMap_cons, List.flatMap_nil, Value.category, junk, oadd, osub, omul, oand, oor, oxor, odiv, orem, oshl, oshr, oushr, omax, omin]; simp) (by simp [rcv, hn, ly146]) (fq_mono (hS h p k q hp hpe hf hK hk) (by rintro r h2 ⟨rfl, z⟩; exact ⟨rfl, rfl, rfl, z⟩))) ?_
  rintro E1 h1 ⟨rfl, o⟩
  obtain ⟨px, px1, px2, px3⟩ := o.at fun p' C z => (hG _ _ _ z).2.1
  have q1 := q.c o.1
  have hn1 := q1.1
  have r4 := q1.2.1.2.1
  refine w_sqI (E' := [.ref 146, .int (nI dp), .int (nI (s px))]) (nI (s px)) (by simp only [f_mkF, w_sI, w_sR, w_sL, w_sC, w_sk, w_sbr, w_sco, w_rV, w_rI, w_rR, w_rL, w_dI, w_sO, w_sq, w_si, w_pI, w_pZ, w_pR, w_pU, w_qI, w_qB, w_qZ, w_qU, w_qR, w_kV, q_icst, q_lcst, q_xR, q_ldI, q_ldR, q_ldL, q_bn, q_un, q_dv, q_fI, q_fR, q_aI, q_aR, q_aN, q_tn, q_cmp, q_cmz, q_cnt, q_ctt, q_cand, q_cor, q_vn, q_vI, q_vR, q_vL, q_kI, q_kR, q_kL, q_ckI, envN, argE, List.flatMap_cons, List.flatMap_nil, Value.category, junk, oadd, osub, omul, oand, oor, oxor, odiv, orem, oshl, oshr, oushr, omax, omin]; simp (disch := first | omega | simp) [rk_i, rk_b, rk_o, st1, kill, Value.category, rcv, nog, hn1, ly146, fq_of (x_sign q1 px2 px1)]) rfl ?_
  have n1 : nI (s px) = 60 ↔ s px = 60 := nI_eq (a := s px) (b := 60) (by have := hs px; omega) (by omega)
  have n2 : nI (s px) = 62 ↔ s px = 62 := nI_eq (a := s px) (b := 62) (by have := hs px; omega) (by omega)
  have n3 : nI (s px) = 61 ↔ s px = 61 := nI_eq (a := s px) (b := 61) (by have := hs px; omega) (by omega)
  have ct : ev (cand (cand (cnt (cmp oeq (ldI 2) (icst 60))) (cnt (cmp oeq (ldI 2) (icst 62)))) (cnt (cmp oeq (ldI 2) (icst 61)))) [.ref 146, .int (nI dp), .int (nI (s px))] h1 fun t h2 => t = decide (cmpP (s px) = 0) ∧ h2 = h1 := by
    have := cmp_e (s px) (hs px)
    refine ev_mono (ev_and (decide (¬ s px = 60 ∧ ¬ s px = 62)) (decide (¬ s px = 61)) (ev_mono (ev_and (decide (¬ s px = 60)) (decide (¬ s px = 62)) ?_ fun _ => ?_) ?_) fun _ => ?_) ?_
    · simp only [f_mkF, w_sI, w_sR, w_sL, w_sC, w_sk, w_sbr, w_sco, w_rV, w_rI, w_rR, w_rL, w_dI, w_sO, w_sq, w_si, w_pI, w_pZ, w_pR, w_pU, w_qI, w_qB, w_qZ, w_qU, w_qR, w_kV, q_icst, q_lcst, q_xR, q_ldI, q_ldR, q_ldL, q_bn, q_un, q_dv, q_fI, q_fR, q_aI, q_aR, q_aN, q_tn, q_cmp, q_cmz, q_cnt, q_ctt, q_cand, q_cor, q_vn, q_vI, q_vR, q_vL, q_kI, q_kR, q_kL, q_ckI, envN, argE, List.flatMap_cons, List.flatMap_nil, Value.category, junk, oadd, osub, omul, oand, oor, oxor, odiv, orem, oshl, oshr, oushr, omax, omin]; simp [rk_i, rk_b, rk_o, st1, kill, Value.category, rcv, nog, n1]
    · simp only [f_mkF, w_sI, w_sR, w_sL, w_sC, w_sk, w_sbr, w_sco, w_rV, w_rI, w_rR, w_rL, w_dI, w_sO, w_sq, w_si, w_pI, w_pZ, w_pR, w_pU, w_qI, w_qB, w_qZ, w_qU, w_qR, w_kV, q_icst, q_lcst, q_xR, q_ldI, q_ldR, q_ldL, q_bn, q_un, q_dv, q_fI, q_fR, q_aI, q_aR, q_aN, q_tn, q_cmp, q_cmz, q_cnt, q_ctt, q_cand, q_cor, q_vn, q_vI, q_vR, q_vL, q_kI, q_kR, q_kL, q_ckI, envN, argE, List.flatMap_cons, List.flatMap_nil, Value.category, junk, oadd, osub, omul, oand, oor, oxor, odiv, orem, oshl, oshr, oushr, omax, omin]; simp [rk_i, rk_b, rk_o, st1, kill, Value.category, rcv, nog, n2]
    · rintro t h2 ⟨rfl, rfl⟩; simp
    · simp only [f_mkF, w_sI, w_sR, w_sL, w_sC, w_sk, w_sbr, w_sco, w_rV, w_rI, w_rR, w_rL, w_dI, w_sO, w_sq, w_si, w_pI, w_pZ, w_pR, w_pU, w_qI, w_qB, w_qZ, w_qU, w_qR, w_kV, q_icst, q_lcst, q_xR, q_ldI, q_ldR, q_ldL, q_bn, q_un, q_dv, q_fI, q_fR, q_aI, q_aR, q_aN, q_tn, q_cmp, q_cmz, q_cnt, q_ctt, q_cand, q_cor, q_vn, q_vI, q_vR, q_vL, q_kI, q_kR, q_kL, q_ckI, envN, argE, List.flatMap_cons, List.flatMap_nil, Value.category, junk, oadd, osub, omul, oand, oor, oxor, odiv, orem, oshl, oshr, oushr, omax, omin]; simp [rk_i, rk_b, rk_o, st1, kill, Value.category, rcv, nog, n3]
    · rintro t h2 ⟨rfl, rfl⟩
      refine ⟨?_, rfl⟩
      rw [Bool.eq_iff_iff]
      simp [this, and_assoc]
  have e3 : F_X4_fail [.ref 146, .int 1] h1 = _ := x_fail q1 (w := 1) px2
  generalize hV : cprP s r p = V
  unfold cprP at hV
  cases hR : sumP s r p with
  | error f =>
    rw [hR] at o hV
    simp only at hV
    subst hV
    have w3 := o.2.2.1
    rw [if_neg w3] at e3
    refine w_sqS (fun E1 h2 => E1 = [.ref 146, .int (nI dp), .int (nI (s px))] ∧ h2 = h1) ?_ ?_
    · refine w_siN _ ct (fun _ => ?_) fun _ => ?_
      · simp only [f_mkF, w_sI, w_sR, w_sL, w_sC, w_sk, w_sbr, w_sco, w_rV, w_rI, w_rR, w_rL, w_dI, w_sO, w_sq, w_si, w_pI, w_pZ, w_pR, w_pU, w_qI, w_qB, w_qZ, w_qU, w_qR, w_kV, q_icst, q_lcst, q_xR, q_ldI, q_ldR, q_ldL, q_bn, q_un, q_dv, q_fI, q_fR, q_aI, q_aR, q_aN, q_tn, q_cmp, q_cmz, q_cnt, q_ctt, q_cand, q_cor, q_vn, q_vI, q_vR, q_vL, q_kI, q_kR, q_kL, q_ckI, envN, argE, List.flatMap_cons, List.flatMap_nil, Value.category, junk, oadd, osub, omul, oand, oor, oxor, odiv, orem, oshl, oshr, oushr, omax, omin]; simp (disch := first | omega | simp) [rk_i, rk_b, rk_o, st1, kill, Value.category, rcv, nog, wI_1, wI_r, nI_1, hn1, ly146, fq_of e3]
      · rw [w_sk]; exact ⟨rfl, rfl, rfl⟩
    · rintro E1 h2 ⟨rfl, rfl⟩
      refine w_sq.mpr ((w_siF (by simp only [f_mkF, w_sI, w_sR, w_sL, w_sC, w_sk, w_sbr, w_sco, w_rV, w_rI, w_rR, w_rL, w_dI, w_sO, w_sq, w_si, w_pI, w_pZ, w_pR, w_pU, w_qI, w_qB, w_qZ, w_qU, w_qR, w_kV, q_icst, q_lcst, q_xR, q_ldI, q_ldR, q_ldL, q_bn, q_un, q_dv, q_fI, q_fR, q_aI, q_aR, q_aN, q_tn, q_cmp, q_cmz, q_cnt, q_ctt, q_cand, q_cor, q_vn, q_vI, q_vR, q_vL, q_kI, q_kR, q_kL, q_ckI, envN, argE, List.flatMap_cons, List.flatMap_nil, Value.category, junk, oadd, osub, omul, oand, oor, oxor, odiv, orem, oshl, oshr, oushr, omax, omin]; simp (disch := first | omega | simp) [rk_i, rk_b, rk_o, st1, kill, Value.category, rcv, nog, inI_b, nI_clamp, nI_ltI, nI_leI, nI_eq, nI_9, nI_6, nI_22, nI_12, nI_180, nI_add, nI_1, hn1, ly146, w3])).mpr (w_sk2.mpr ?_))
      rw [w_rV]
      exact Or.inl ⟨rfl, rfl, rfl, o⟩
  | ok x =>
    obtain ⟨p1, C1⟩ := x
    have e1 := px3 _ _ hR
    subst e1
    obtain ⟨g1, g2, g3⟩ := hG _ _ _ hR
    rw [hR] at o hV
    simp only at hV
    have o' := o
    obtain ⟨o1, o2, o3, o4, o5⟩ := o'
    rw [if_pos o3] at e3
    by_cases c0 : cmpP (s px) = 0
    · rw [if_pos c0] at hV
      subst hV
      have o8 := OC_fail (c := c) hA o1 o2 g2 he (w := 1) (by omega) (by omega) o4 (by omega) (by omega)
      refine w_sqS (fun E1 h2 => E1 = [.ref 146, .int (nI dp), .int (nI (s px))] ∧ h2 = wI h1 146 3 (-1000 * nI 1 - nI px)) ?_ ?_
      · refine (w_siT (ev_mono ct (by rintro t h2 ⟨rfl, rfl⟩; simp [c0]))).mpr ?_
        simp only [f_mkF, w_sI, w_sR, w_sL, w_sC, w_sk, w_sbr, w_sco, w_rV, w_rI, w_rR, w_rL, w_dI, w_sO, w_sq, w_si, w_pI, w_pZ, w_pR, w_pU, w_qI, w_qB, w_qZ, w_qU, w_qR, w_kV, q_icst, q_lcst, q_xR, q_ldI, q_ldR, q_ldL, q_bn, q_un, q_dv, q_fI, q_fR, q_aI, q_aR, q_aN, q_tn, q_cmp, q_cmz, q_cnt, q_ctt, q_cand, q_cor, q_vn, q_vI, q_vR, q_vL, q_kI, q_kR, q_kL, q_ckI, envN, argE, List.flatMap_cons, List.flatMap_nil, Value.category, junk, oadd, osub, omul, oand, oor, oxor, odiv, orem, oshl, oshr, oushr, omax, omin]; simp (disch := first | omega | simp) [rk_i, rk_b, rk_o, st1, kill, Value.category, rcv, nog, wI_1, wI_r, nI_1, hn1, ly146, fq_of e3]
      · rintro E1 h2 ⟨rfl, rfl⟩
        have w3 := o8.2.2.1
        generalize wI h1 146 3 (-1000 * nI 1 - nI px) = h9 at *
        have hn9 := (q.c o8.1).1
        refine w_sq.mpr ((w_siF (by simp only [f_mkF, w_sI, w_sR, w_sL, w_sC, w_sk, w_sbr, w_sco, w_rV, w_rI, w_rR, w_rL, w_dI, w_sO, w_sq, w_si, w_pI, w_pZ, w_pR, w_pU, w_qI, w_qB, w_qZ, w_qU, w_qR, w_kV, q_icst, q_lcst, q_xR, q_ldI, q_ldR, q_ldL, q_bn, q_un, q_dv, q_fI, q_fR, q_aI, q_aR, q_aN, q_tn, q_cmp, q_cmz, q_cnt, q_ctt, q_cand, q_cor, q_vn, q_vI, q_vR, q_vL, q_kI, q_kR, q_kL, q_ckI, envN, argE, List.flatMap_cons, List.flatMap_nil, Value.category, junk, oadd, osub, omul, oand, oor, oxor, odiv, orem, oshl, oshr, oushr, omax, omin]; simp (disch := first | omega | simp) [rk_i, rk_b, rk_o, st1, kill, Value.category, rcv, nog, inI_b, nI_clamp, nI_ltI, nI_leI, nI_eq, nI_9, nI_6, nI_22, nI_12, nI_180, nI_add, nI_1, hn9, ly146, w3])).mpr (w_sk2.mpr ?_))
        rw [w_rV]
        exact Or.inl ⟨rfl, rfl, rfl, o8⟩
    · rw [if_neg c0] at hV
      obtain ⟨t1, t2, t3, t4⟩ := cmp_c (s px) (hs px) c0
      have hlt : px < e := lt_e hz t1
      refine w_sq.mpr ((w_siF (ev_mono ct (by rintro t h2 ⟨rfl, rfl⟩; simp [c0]))).mpr (w_sk2.mpr ?_))
      refine w_sqS (fun E1 h2 => OC e la c h (k + c) V h2) ?_ (fun E1 h2 z => by rw [w_rV]; exact Or.inl ⟨rfl, rfl, rfl, z⟩)
      refine (w_siT (by simp only [f_mkF, w_sI, w_sR, w_sL, w_sC, w_sk, w_sbr, w_sco, w_rV, w_rI, w_rR, w_rL, w_dI, w_sO, w_sq, w_si, w_pI, w_pZ, w_pR, w_pU, w_qI, w_qB, w_qZ, w_qU, w_qR, w_kV, q_icst, q_lcst, q_xR, q_ldI, q_ldR, q_ldL, q_bn, q_un, q_dv, q_fI, q_fR, q_aI, q_aR, q_aN, q_tn, q_cmp, q_cmz, q_cnt, q_ctt, q_cand, q_cor, q_vn, q_vI, q_vR, q_vL, q_kI, q_kR, q_kL, q_ckI, envN, argE, List.flatMap_cons, List.flatMap_nil, Value.category, junk, oadd, osub, omul, oand, oor, oxor, odiv, orem, oshl, oshr, oushr, omax, omin]; simp (disch := first | omega | simp) [rk_i, rk_b, rk_o, st1, kill, Value.category, rcv, nog, hn1, ly146, o3])).mpr ?_
      have f2 : Fr (SCl la (k + c + C1.length)) h1 (wI h1 146 2 (nI (px + 1))) := (Fr.refl h1).w (by unfold SCl; omega)
      have q3 := q1.c f2
      refine w_sqS (fun E1 h3 => E1 = [.ref 146, .int (nI dp), .int (nI (s px))] ∧ h3 = wI h1 146 2 (nI (px + 1))) (by simp only [f_mkF, w_sI, w_sR, w_sL, w_sC, w_sk, w_sbr, w_sco, w_rV, w_rI, w_rR, w_rL, w_dI, w_sO, w_sq, w_si, w_pI, w_pZ, w_pR, w_pU, w_qI, w_qB, w_qZ, w_qU, w_qR, w_kV, q_icst, q_lcst, q_xR, q_ldI, q_ldR, q_ldL, q_bn, q_un, q_dv, q_fI, q_fR, q_aI, q_aR, q_aN, q_tn, q_cmp, q_cmz, q_cnt, q_ctt, q_cand, q_cor, q_vn, q_vI, q_vR, q_vL, q_kI, q_kR, q_kL, q_ckI, envN, argE, List.flatMap_cons, List.flatMap_nil, Value.category, junk, oadd, osub, omul, oand, oor, oxor, odiv, orem, oshl, oshr, oushr, omax, omin]; simp (disch := first | omega | simp) [rk_i, rk_b, rk_o, st1, kill, Value.category, rcv, nog, hn1, ly146, o2, nI_1]) ?_
      rintro E1 h3 ⟨rfl, rfl⟩
      have s1 := hS (wI h1 146 2 (nI (px + 1))) (px + 1) (k + C1.length) q3 (by rw [wI_i, if_pos ⟨rfl, rfl⟩]) (by omega) (by rw [wI_i, if_neg (by omega)]; exact o3) (by rw [wI_i, if_neg (by omega), o4]; congr 1; omega) (by omega)
      rw [show k + C1.length + c = k + c + C1.length from by omega] at s1
      refine w_sqS (fun E1 h4 => E1 = [.ref 146, .int (nI dp), .int (nI (s px))] ∧ OC e la c (wI h1 146 2 (nI (px + 1))) (k + c + C1.length) (sumP s r (px + 1)) h4) (w_kVe [.ref 146, .int (nI dp)] (by simp only [f_mkF, w_sI, w_sR, w_sL, w_sC, w_sk, w_sbr, w_sco, w_rV, w_rI, w_rR, w_rL, w_dI, w_sO, w_sq, w_si, w_pI, w_pZ, w_pR, w_pU, w_qI, w_qB, w_qZ, w_qU, w_qR, w_kV, q_icst, q_lcst, q_xR, q_ldI, q_ldR, q_ldL, q_bn, q_un, q_dv, q_fI, q_fR, q_aI, q_aR, q_aN, q_tn, q_cmp, q_cmz, q_cnt, q_ctt, q_cand, q_cor, q_vn, q_vI, q_vR, q_vL, q_kI, q_kR, q_kL, q_ckI, envN, argE, List.flatMap_cons, List.flatMap_nil, Value.category, junk, oadd, osub, omul, oand, oor, oxor, odiv, orem, oshl, oshr, oushr, omax, omin]; simp) (by simp [rcv, wI_1, hn1, ly146]) (fq_mono s1 (by rintro r h4 ⟨rfl, z⟩; exact ⟨rfl, rfl, rfl, z⟩))) ?_
      rintro E1 h4 ⟨rfl, o7⟩
      have q4 := q3.c o7.1
      have hn4 := q4.1
      have r4 := q4.2.1.2.1
      have f4 : Fr (SCl la (k + c)) h h4 := o1.trans ((f2.sc (by omega)).trans (o7.1.sc (by omega)))
      have f5 : Fr (SCl la (k + c + C1.length)) h1 h4 := f2.trans o7.1
      cases hF : sumP s r (px + 1) with
      | error f =>
        rw [hF] at o7 hV
        simp only at hV
        subst hV
        obtain ⟨-, w2, w3, ⟨p', w4, w5⟩, K', w6, w7, w8⟩ := o7
        rw [w_dI, q_kI]
        simp only [f_mkF, w_sI, w_sR, w_sL, w_sC, w_sk, w_sbr, w_sco, w_rV, w_rI, w_rR, w_rL, w_dI, w_sO, w_sq, w_si, w_pI, w_pZ, w_pR, w_pU, w_qI, w_qB, w_qZ, w_qU, w_qR, w_kV, q_icst, q_lcst, q_xR, q_ldI, q_ldR, q_ldL, q_bn, q_un, q_dv, q_fI, q_fR, q_aI, q_aR, q_aN, q_tn, q_cmp, q_cmz, q_cnt, q_ctt, q_cand, q_cor, q_vn, q_vI, q_vR, q_vL, q_kI, q_kR, q_kL, q_ckI, envN, argE, List.flatMap_cons, List.flatMap_nil, Value.category, junk, oadd, osub, omul, oand, oor, oxor, odiv, orem, oshl, oshr, oushr, omax, omin]
        simp (disch := first | omega | simp) [rk_i, rk_b, rk_o, st1, kill, Value.category, rcv, nog, hn4, ly146, r4, yl, yl2]
        refine fq_mono (x_addF q4 w8 w7 (nI (s px)) 0) ?_
        rintro r h5 ⟨⟨v5, rfl⟩, z2, K2, z3, z4, z5⟩
        refine ⟨⟨v5, rfl⟩, f4.trans (z2.sub fun a k z => by unfold SCl; omega), ?_, ?_, ⟨p', w4, ?_⟩, K2, by omega, z4, z5⟩
        · rw [z2.2.2 146 3 (by omega)]; exact w2
        · rw [z2.2.2 146 3 (by omega)]; exact w3
        · rw [z2.2.2 146 2 (by omega)]; exact w5
      | ok x =>
        obtain ⟨p2, C2⟩ := x
        rw [hF] at o7 hV
        simp only at hV
        subst hV
        obtain ⟨-, w2, w3, w4, w5⟩ := o7
        obtain ⟨g5, g6, g7⟩ := hG _ _ _ hF
        have a1 := x_addL q4 w4 (by omega) (nI (s px)) 0
        simp only [f_mkF, w_sI, w_sR, w_sL, w_sC, w_sk, w_sbr, w_sco, w_rV, w_rI, w_rR, w_rL, w_dI, w_sO, w_sq, w_si, w_pI, w_pZ, w_pR, w_pU, w_qI, w_qB, w_qZ, w_qU, w_qR, w_kV, q_icst, q_lcst, q_xR, q_ldI, q_ldR, q_ldL, q_bn, q_un, q_dv, q_fI, q_fR, q_aI, q_aR, q_aN, q_tn, q_cmp, q_cmz, q_cnt, q_ctt, q_cand, q_cor, q_vn, q_vI, q_vR, q_vL, q_kI, q_kR, q_kL, q_ckI, envN, argE, List.flatMap_cons, List.flatMap_nil, Value.category, junk, oadd, osub, omul, oand, oor, oxor, odiv, orem, oshl, oshr, oushr, omax, omin]
        simp (disch := first | omega | simp) [rk_i, rk_b, rk_o, st1, kill, Value.category, rcv, nog, hn4, ly146, r4, yl, yl2, fq_of a1]
        have f6 : Fr (SCl la (k + c + C1.length + C2.length)) h4 (wI (wI (wI h4 (la + 1) (k + c + C1.length + C2.length) (nI (s px))) (la + 2) (k + c + C1.length + C2.length) 0) la 4 (nI (k + c + C1.length + C2.length + 1))) := (((Fr.refl h4).w (by unfold SCl; omega)).w (by unfold SCl; omega)).w (by unfold SCl; omega)
        refine ⟨f4.trans (f6.sc (by omega)), ?_, ?_, ?_, CC.app (o5.c hA (f5.trans (f6.sc (by omega))) (by omega)) (CC.app (w5.c hA f6 (by omega)) (CC.one ?_ (fun z => ?_) (fun z => ?_)))⟩
        · rw [wI_i, if_neg (by omega), wI_i, if_neg (by omega), wI_i, if_neg (by omega)]; exact w2
        · rw [wI_i, if_neg (by omega), wI_i, if_neg (by omega), wI_i, if_neg (by omega)]; exact w3
        · rw [wI_i, if_pos ⟨rfl, rfl⟩]; simp only [List.length_append, List.length_singleton]; congr 1; omega
        · rw [wI_i, if_neg (by omega), wI_i, if_neg (by omega), wI_i, if_pos ⟨rfl, by omega⟩, t2]
        · simp only at z; omega
        · simp only at z; omega
/-- a chain of skips -/
def Ch (h : Hp) (la : Nat) : Int32 → List Nat → Prop
  | v, [] => v = -1
  | v, x :: S => v = nI x ∧ Ch h la (h.2.1 (la + 2) x) S
theorem Ch_c {h h' : Hp} {la : Nat} : ∀ (S : List Nat) (v : Int32), (∀ y, y ∈ S → h'.2.1 (la + 2) y = h.2.1 (la + 2) y) → Ch h la v S → Ch h' la v S := by
  intro S
  induction S with
  | nil => intro v _ z; exact z
  | cons x S ih =>
    rintro v e ⟨z1, z2⟩
    refine ⟨z1, ?_⟩
    rw [e x (List.mem_cons_self ..)]
    exact ih _ (fun y hy => e y (List.mem_cons_of_mem _ hy)) z2
theorem desc_l : ∀ (S : List Nat) (L : Nat), S.Pairwise (· > ·) → (∀ y, y ∈ S → y < L) → S.length ≤ L := by
  intro S
  induction S with
  | nil => intro L _ _; exact Nat.zero_le _
  | cons x S ih =>
    intro L hp hL
    have h1 := hL x (List.mem_cons_self ..)
    rw [List.pairwise_cons] at hp
    have := ih x hp.2 fun y hy => hp.1 y hy
    rw [List.length_cons]
    omega
theorem x_ends {s : Nat → Nat} {e la : Nat} {h : Hp} (q : RX s e la h) {L : Nat} (hL : h.2.1 la 4 = nI L) (hl : L ≤ 160) {S : List Nat} {v : Int32} (hS : S.Pairwise (· > ·)) (hb : ∀ y, y ∈ S → y < L) (hc : Ch h la v S) : fq F_X3_endSkips [.ref la, .int v] h fun r h' => r = none ∧ Fr (fun a k => a = la + 2 ∧ k ∈ S) h h' ∧ ∀ y, y ∈ S → h'.2.1 (la + 2) y = nI L := by
  have hn := q.1
  have hA := q.2.1.2.2
  have r1 := q.2.2.1.2.1
  obtain ⟨y0, y1, y2, -, -, yb, yc⟩ := law_y hA
  have a1 : la < 212 := by omega
  have a3 : la + 2 < 212 := by omega
  have hlen := desc_l S L hS hb
  unfold F_X3_endSkips
  refine f_mkE [.ref la, .int v, junk, junk, junk] rfl (by simp [argE, Value.category]) ?_
  refine w_sqI (E' := [.ref la, .int v, .int v, junk, junk]) v (by simp only [f_mkF, w_sI, w_sR, w_sL, w_sC, w_sk, w_sbr, w_sco, w_rV, w_rI, w_rR, w_rL, w_dI, w_sO, w_sq, w_si, w_pI, w_pZ, w_pR, w_pU, w_qI, w_qB, w_qZ, w_qU, w_qR, w_kV, q_icst, q_lcst, q_xR, q_ldI, q_ldR, q_ldL, q_bn, q_un, q_dv, q_fI, q_fR, q_aI, q_aR, q_aN, q_tn, q_cmp, q_cmz, q_cnt, q_ctt, q_cand, q_cor, q_vn, q_vI, q_vR, q_vL, q_kI, q_kR, q_kL, q_ckI, envN, argE, List.flatMap_cons, List.flatMap_nil, Value.category, junk, oadd, osub, omul, oand, oor, oxor, odiv, orem, oshl, oshr, oushr, omax, omin]; simp) rfl ?_
  refine w_sqS (fun _ h' => Fr (fun a k => a = la + 2 ∧ k ∈ S) h h' ∧ ∀ y, y ∈ S → h'.2.1 (la + 2) y = nI L) ?_ (fun E1 h1 z => by rw [w_rV]; exact Or.inl ⟨rfl, rfl, rfl, z⟩)
  refine w_sqN (w_sIe 0 (by simp only [f_mkF, w_sI, w_sR, w_sL, w_sC, w_sk, w_sbr, w_sco, w_rV, w_rI, w_rR, w_rL, w_dI, w_sO, w_sq, w_si, w_pI, w_pZ, w_pR, w_pU, w_qI, w_qB, w_qZ, w_qU, w_qR, w_kV, q_icst, q_lcst, q_xR, q_ldI, q_ldR, q_ldL, q_bn, q_un, q_dv, q_fI, q_fR, q_aI, q_aR, q_aN, q_tn, q_cmp, q_cmz, q_cnt, q_ctt, q_cand, q_cor, q_vn, q_vI, q_vR, q_vL, q_kI, q_kR, q_kL, q_ckI, envN, argE, List.flatMap_cons, List.flatMap_nil, Value.category, junk, oadd, osub, omul, oand, oor, oxor, odiv, orem, oshl, oshr, oushr, omax, omin]; simp) rfl ⟨rfl, ?_⟩)
  have Zd : ∃ Z : Nat → Nat → En → Hp → Prop, Z = fun n m E h' => ∃ S1 S2 w v4, S = S1 ++ S2 ∧ n = S1.length ∧ Ch h' la w S2 ∧ Fr (fun a k => a = la + 2 ∧ k ∈ S1) h h' ∧ (∀ y, y ∈ S1 → h'.2.1 (la + 2) y = nI L) ∧ v4.category = 1 ∧ E = [.ref la, .int v, .int w, .int (nI m), v4] := ⟨_, rfl⟩
  obtain ⟨Z, hZ⟩ := Zd
  refine w_for (lo := 0) (hi := 160) (fun n => Z n n) (fun n => Z (n + 1) n) (by omega) ?_ ?_ ?_
  · rw [hZ]
    exact ⟨[], S, v, junk, rfl, rfl, hc, Fr.refl h, (fun y hy => by simp at hy), rfl, rfl⟩
  · intro n E h' n1 n2 hI
    rw [hZ] at hI
    obtain ⟨S1, S2, w, v4, i1, i2, i3, i4, i5, i6, rfl⟩ := hI
    have hn' : h'.1 = 212 := i4.1.trans hn
    have hL' : h'.2.1 la 4 = nI L := by rw [i4.2.2 la 4 (by omega)]; exact hL
    have r1' : h'.2.2 la 1 = some (la + 2) := by rw [i4.2.1]; exact r1
    have k160 : (160 : Int32) = nI 160 := rfl
    cases S2 with
    | nil =>
      have i3' : w = -1 := i3
      subst i3'
      have e1 := e_x_isWithin (-1) 0 (nI L - 1) h'
      rw [b2_0.mpr (by rintro ⟨z, -⟩; exact absurd z (by decide))] at e1
      have hq : Fr (fun a k => a = la + 2 ∧ k ∈ S) h h' ∧ ∀ y, y ∈ S → h'.2.1 (la + 2) y = nI L := by
        rw [List.append_nil] at i1
        rw [i1]
        exact ⟨i4, i5⟩
      by_cases c1 : n < 160
      · exact ev_F (by simp only [f_mkF, w_sI, w_sR, w_sL, w_sC, w_sk, w_sbr, w_sco, w_rV, w_rI, w_rR, w_rL, w_dI, w_sO, w_sq, w_si, w_pI, w_pZ, w_pR, w_pU, w_qI, w_qB, w_qZ, w_qU, w_qR, w_kV, q_icst, q_lcst, q_xR, q_ldI, q_ldR, q_ldL, q_bn, q_un, q_dv, q_fI, q_fR, q_aI, q_aR, q_aN, q_tn, q_cmp, q_cmz, q_cnt, q_ctt, q_cand, q_cor, q_vn, q_vI, q_vR, q_vL, q_kI, q_kR, q_kL, q_ckI, envN, argE, List.flatMap_cons, List.flatMap_nil, Value.category, junk, oadd, osub, omul, oand, oor, oxor, odiv, orem, oshl, oshr, oushr, omax, omin]; simp (disch := first | omega | simp) [rk_i, rk_b, rk_o, st1, kill, Value.category, rcv, nog, wI_1, wI_r, nI_1, inI_b, nI_clamp, nI_ltI, nI_leI, nI_eq, nI_9, nI_6, nI_22, nI_12, nI_180, nI_add, nI_1, hn', hL', y0, a1, k160, c1, fq_of e1]) ⟨rfl, (fun z => by cases z), fun _ => ⟨rfl, hq⟩⟩
      · exact ev_F (by simp only [f_mkF, w_sI, w_sR, w_sL, w_sC, w_sk, w_sbr, w_sco, w_rV, w_rI, w_rR, w_rL, w_dI, w_sO, w_sq, w_si, w_pI, w_pZ, w_pR, w_pU, w_qI, w_qB, w_qZ, w_qU, w_qR, w_kV, q_icst, q_lcst, q_xR, q_ldI, q_ldR, q_ldL, q_bn, q_un, q_dv, q_fI, q_fR, q_aI, q_aR, q_aN, q_tn, q_cmp, q_cmz, q_cnt, q_ctt, q_cand, q_cor, q_vn, q_vI, q_vR, q_vL, q_kI, q_kR, q_kL, q_ckI, envN, argE, List.flatMap_cons, List.flatMap_nil, Value.category, junk, oadd, osub, omul, oand, oor, oxor, odiv, orem, oshl, oshr, oushr, omax, omin]; simp (disch := first | omega | simp) [rk_i, rk_b, rk_o, st1, kill, Value.category, rcv, nog, wI_1, wI_r, nI_1, inI_b, nI_clamp, nI_ltI, nI_leI, nI_eq, nI_9, nI_6, nI_22, nI_12, nI_180, nI_add, nI_1, hn', hL', y0, a1, k160, c1, fq_of e1]) ⟨rfl, (fun z => by cases z), fun _ => ⟨rfl, hq⟩⟩
    | cons x S3 =>
      obtain ⟨j1, j2⟩ := i3
      subst j1
      have hx : x < L := hb x (by rw [i1]; simp)
      have n160 : n < 160 := by
        have : S.length = S1.length + (S3.length + 1) := by rw [i1]; simp
        omega
      have e1 := e_x_isWithin (nI x) 0 (nI L - 1) h'
      rw [b2_1.mpr ⟨nI_0le (by omega), by
        rw [show (1 : Int32) = nI 1 from rfl, nI_subc (by omega), nI_leI (by omega) (by omega)]; omega⟩] at e1
      refine ev_T (by simp only [f_mkF, w_sI, w_sR, w_sL, w_sC, w_sk, w_sbr, w_sco, w_rV, w_rI, w_rR, w_rL, w_dI, w_sO, w_sq, w_si, w_pI, w_pZ, w_pR, w_pU, w_qI, w_qB, w_qZ, w_qU, w_qR, w_kV, q_icst, q_lcst, q_xR, q_ldI, q_ldR, q_ldL, q_bn, q_un, q_dv, q_fI, q_fR, q_aI, q_aR, q_aN, q_tn, q_cmp, q_cmz, q_cnt, q_ctt, q_cand, q_cor, q_vn, q_vI, q_vR, q_vL, q_kI, q_kR, q_kL, q_ckI, envN, argE, List.flatMap_cons, List.flatMap_nil, Value.category, junk, oadd, osub, omul, oand, oor, oxor, odiv, orem, oshl, oshr, oushr, omax, omin]; simp (disch := first | omega | simp) [rk_i, rk_b, rk_o, st1, kill, Value.category, rcv, nog, wI_1, wI_r, nI_1, inI_b, nI_clamp, nI_ltI, nI_leI, nI_eq, nI_9, nI_6, nI_22, nI_12, nI_180, nI_add, nI_1, hn', hL', y0, a1, k160, n160, fq_of e1]) ⟨rfl, fun _ => ⟨n160, ?_⟩, fun z => by cases z⟩
      have x160 : x < 160 := by omega
      refine w_sqI (E' := [.ref la, .int v, .int (nI x), .int (nI n), .int (h'.2.1 (la + 2) x)]) (h'.2.1 (la + 2) x) (by simp only [f_mkF, w_sI, w_sR, w_sL, w_sC, w_sk, w_sbr, w_sco, w_rV, w_rI, w_rR, w_rL, w_dI, w_sO, w_sq, w_si, w_pI, w_pZ, w_pR, w_pU, w_qI, w_qB, w_qZ, w_qU, w_qR, w_kV, q_icst, q_lcst, q_xR, q_ldI, q_ldR, q_ldL, q_bn, q_un, q_dv, q_fI, q_fR, q_aI, q_aR, q_aN, q_tn, q_cmp, q_cmz, q_cnt, q_ctt, q_cand, q_cor, q_vn, q_vI, q_vR, q_vL, q_kI, q_kR, q_kL, q_ckI, envN, argE, List.flatMap_cons, List.flatMap_nil, Value.category, junk, oadd, osub, omul, oand, oor, oxor, odiv, orem, oshl, oshr, oushr, omax, omin]; simp (disch := first | omega | simp) [rk_i, rk_b, rk_o, st1, kill, Value.category, rcv, nog, wI_1, wI_r, nI_1, inI_b, nI_clamp, nI_ltI, nI_leI, nI_eq, nI_9, nI_6, nI_22, nI_12, nI_180, nI_add, nI_1, hn', r1', y0, y2, a1, a3, x160]) rfl ?_
      refine w_sqN (w_qIe (la + 2) x (nI L) (by simp only [f_mkF, w_sI, w_sR, w_sL, w_sC, w_sk, w_sbr, w_sco, w_rV, w_rI, w_rR, w_rL, w_dI, w_sO, w_sq, w_si, w_pI, w_pZ, w_pR, w_pU, w_qI, w_qB, w_qZ, w_qU, w_qR, w_kV, q_icst, q_lcst, q_xR, q_ldI, q_ldR, q_ldL, q_bn, q_un, q_dv, q_fI, q_fR, q_aI, q_aR, q_aN, q_tn, q_cmp, q_cmz, q_cnt, q_ctt, q_cand, q_cor, q_vn, q_vI, q_vR, q_vL, q_kI, q_kR, q_kL, q_ckI, envN, argE, List.flatMap_cons, List.flatMap_nil, Value.category, junk, oadd, osub, omul, oand, oor, oxor, odiv, orem, oshl, oshr, oushr, omax, omin]; simp (disch := first | omega | simp) [rk_i, rk_b, rk_o, st1, kill, Value.category, rcv, nog, wI_1, wI_r, nI_1, hn', r1', y0, a1]) (by simp only [f_mkF, w_sI, w_sR, w_sL, w_sC, w_sk, w_sbr, w_sco, w_rV, w_rI, w_rR, w_rL, w_dI, w_sO, w_sq, w_si, w_pI, w_pZ, w_pR, w_pU, w_qI, w_qB, w_qZ, w_qU, w_qR, w_kV, q_icst, q_lcst, q_xR, q_ldI, q_ldR, q_ldL, q_bn, q_un, q_dv, q_fI, q_fR, q_aI, q_aR, q_aN, q_tn, q_cmp, q_cmz, q_cnt, q_ctt, q_cand, q_cor, q_vn, q_vI, q_vR, q_vL, q_kI, q_kR, q_kL, q_ckI, envN, argE, List.flatMap_cons, List.flatMap_nil, Value.category, junk, oadd, osub, omul, oand, oor, oxor, odiv, orem, oshl, oshr, oushr, omax, omin]; simp) (by simp only [f_mkF, w_sI, w_sR, w_sL, w_sC, w_sk, w_sbr, w_sco, w_rV, w_rI, w_rR, w_rL, w_dI, w_sO, w_sq, w_si, w_pI, w_pZ, w_pR, w_pU, w_qI, w_qB, w_qZ, w_qU, w_qR, w_kV, q_icst, q_lcst, q_xR, q_ldI, q_ldR, q_ldL, q_bn, q_un, q_dv, q_fI, q_fR, q_aI, q_aR, q_aN, q_tn, q_cmp, q_cmz, q_cnt, q_ctt, q_cand, q_cor, q_vn, q_vI, q_vR, q_vL, q_kI, q_kR, q_kL, q_ckI, envN, argE, List.flatMap_cons, List.flatMap_nil, Value.category, junk, oadd, osub, omul, oand, oor, oxor, odiv, orem, oshl, oshr, oushr, omax, omin]; simp (disch := first | omega | simp) [rk_i, rk_b, rk_o, st1, kill, Value.category, rcv, nog, wI_1, wI_r, nI_1, hn', hL', y0, a1]) (by omega) y2 x160 (by omega) ⟨rfl, ?_⟩)
      refine w_sIe (h'.2.1 (la + 2) x) (by simp only [f_mkF, w_sI, w_sR, w_sL, w_sC, w_sk, w_sbr, w_sco, w_rV, w_rI, w_rR, w_rL, w_dI, w_sO, w_sq, w_si, w_pI, w_pZ, w_pR, w_pU, w_qI, w_qB, w_qZ, w_qU, w_qR, w_kV, q_icst, q_lcst, q_xR, q_ldI, q_ldR, q_ldL, q_bn, q_un, q_dv, q_fI, q_fR, q_aI, q_aR, q_aN, q_tn, q_cmp, q_cmz, q_cnt, q_ctt, q_cand, q_cor, q_vn, q_vI, q_vR, q_vL, q_kI, q_kR, q_kL, q_ckI, envN, argE, List.flatMap_cons, List.flatMap_nil, Value.category, junk, oadd, osub, omul, oand, oor, oxor, odiv, orem, oshl, oshr, oushr, omax, omin]; simp) rfl ⟨rfl, ?_⟩
      rw [hZ]
      have hS2 : (x :: S3).Pairwise (· > ·) := by rw [i1, List.pairwise_append] at hS; exact hS.2.1
      refine ⟨S1 ++ [x], S3, h'.2.1 (la + 2) x, _, by rw [i1]; simp, by rw [List.length_append, i2]; rfl, Ch_c S3 _ (fun y hy => ?_) j2, ?_, fun y hy => ?_, rfl, rfl⟩
      · have := List.rel_of_pairwise_cons hS2 hy
        rw [wI_i, if_neg (by omega)]
      · exact (i4.sub fun a k z => ⟨z.1, by simp [z.2]⟩).w ⟨rfl, by simp⟩
      · rw [wI_i]
        by_cases cy : y = x
        · rw [if_pos ⟨rfl, cy⟩]
        · rw [if_neg (by omega)]
          rw [List.mem_append] at hy
          rcases hy with hy | hy
          · exact i5 y hy
          · simp at hy; exact absurd hy cy
  · intro n E h' n1 n2 hJ
    rw [hZ] at hJ ⊢
    obtain ⟨S1, S2, w, v4, i1, i2, i3, i4, i5, i6, rfl⟩ := hJ
    exact ⟨rfl, S1, S2, w, v4, i1, i2, i3, i4, i5, i6, rfl⟩
