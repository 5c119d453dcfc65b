/-! cheapest: the reference, and both -/
theorem m_whose0 {w : Wd} {t : Nat} {h : Hp} (m1 : MX w t h) (e72 : h.2.1 172 t = nI (W_n w)) (htt : nI t < h.2.1 166 2) : fq F_X11_whose [.ref 166, .int (nI (W_f w)), .int (nI t)] h fun r h' => r = some (.int (whz w 0)) ∧ Fr SN h h' ∧ h'.2.1 166 41 = 0 := by
  have hn1 := m1.1.1
  have hf : 0 ≤ nI (W_f w) ∧ nI (W_f w) ≤ 5 := ⟨nI_0le (by have := m1.wv.2.1; omega), by show nI (W_f w) ≤ nI 5; have := m1.wv.2.1; rw [nI_leI (by omega) (by omega)]; omega⟩
  have ht0 : 0 ≤ nI t := nI_0le (by have := m1.2.1; omega)
  unfold F_X11_whose
  refine f_mkE _ rfl (by simp [argE, Value.category]) ?_
  refine w_sq.mpr ((w_siF (by simp only [f_mkF, w_sI, w_sR, w_sL, w_sC, w_sk, w_sbr, w_sco, w_rV, w_rI, w_rR, w_rL, w_dI, w_sO, w_sq, w_si, w_pI, w_pZ, w_pR, w_pU, w_qI, w_qB, w_qZ, w_qU, w_qR, w_kV, q_icst, q_lcst, q_xR, q_ldI, q_ldR, q_ldL, q_bn, q_un, q_dv, q_fI, q_fR, q_aI, q_aR, q_aN, q_tn, q_cmp, q_cmz, q_cnt, q_ctt, q_cand, q_cor, q_vn, q_vI, q_vR, q_vL, q_kI, q_kR, q_kL, q_ckI, envN, argE, List.flatMap_cons, List.flatMap_nil, Value.category, junk, oadd, osub, omul, oand, oor, oxor, odiv, orem, oshl, oshr, oushr, omax, omin]; simp (disch := first | omega | simp) [rk_i, rk_b, rk_o, st1, kill, Value.category, rcv, nog, inI_b, nI_clamp, nI_ltI, nI_leI, nI_eq, nI_9, nI_6, nI_22, nI_12, nI_180, nI_add, nI_1, hn1, ly166, fq_of (m_can hn1 _ _), b2_0, htt, hf, ht0, zne, zeq])).mpr (w_sk2.mpr ?_))
  refine w_fz fun B hB C hC => ?_
  simp only [f_mkF, w_sI, w_sR, w_sL, w_sC, w_sk, w_sbr, w_sco, w_rV, w_rI, w_rR, w_rL, w_dI, w_sO, w_sq, w_si, w_pI, w_pZ, w_pR, w_pU, w_qI, w_qB, w_qZ, w_qU, w_qR, w_kV, q_icst, q_lcst, q_xR, q_ldI, q_ldR, q_ldL, q_bn, q_un, q_dv, q_fI, q_fR, q_aI, q_aR, q_aN, q_tn, q_cmp, q_cmz, q_cnt, q_ctt, q_cand, q_cor, q_vn, q_vI, q_vR, q_vL, q_kI, q_kR, q_kL, q_ckI, envN, argE, List.flatMap_cons, List.flatMap_nil, Value.category, junk, oadd, osub, omul, oand, oor, oxor, odiv, orem, oshl, oshr, oushr, omax, omin]
  simp (disch := first | omega | simp) [rk_i, rk_b, rk_o, st1, kill, Value.category, rcv, nog, inI_b, nI_clamp, nI_ltI, nI_leI, nI_eq, nI_9, nI_6, nI_22, nI_12, nI_180, nI_add, nI_1, hn1, ly166]
  refine fq_mono (m_judges m1 e72) ?_
  rintro r h2 ⟨rfl, f2, hR, e51, e41, -⟩
  simp
  subst hB hC
  have hn2 : h2.1 = 212 := f2.1.trans hn1
  simp only [f_mkF, w_sI, w_sR, w_sL, w_sC, w_sk, w_sbr, w_sco, w_rV, w_rI, w_rR, w_rL, w_dI, w_sO, w_sq, w_si, w_pI, w_pZ, w_pR, w_pU, w_qI, w_qB, w_qZ, w_qU, w_qR, w_kV, q_icst, q_lcst, q_xR, q_ldI, q_ldR, q_ldL, q_bn, q_un, q_dv, q_fI, q_fR, q_aI, q_aR, q_aN, q_tn, q_cmp, q_cmz, q_cnt, q_ctt, q_cand, q_cor, q_vn, q_vI, q_vR, q_vL, q_kI, q_kR, q_kL, q_ckI, envN, argE, List.flatMap_cons, List.flatMap_nil, Value.category, junk, oadd, osub, omul, oand, oor, oxor, odiv, orem, oshl, oshr, oushr, omax, omin]
  simp [rk_i, rk_b, rk_o, st1, kill, Value.category, rcv, nog, hn2, ly166, e51, f2, e41]
theorem m_can2 {w : Wd} {t : Nat} {h : Hp} (m : MX w t h) (e72 : h.2.1 172 t = nI (W_n w)) {fr q p : Int32} (hc : CB h (nI (W_f w)) fr (nI t) q p) (d : p ≠ q ∧ q ≠ frm (W_R w) (W_fo w) (W_n w) ∧ W_n w ≤ 18) (hpw : p ≠ whz w 0) : fq F_X11_canSteal [.ref 166, .int (nI (W_f w)), .int fr, .int (nI t), .int q, .int p] h fun r h' => r = some (.int 1) ∧ Fr SN h h' ∧ h'.2.1 166 41 = 0 := by
  have hn := m.1.1
  have hm := m.1.2.2
  have ht := m.2.1
  have n20 := m.wv.1
  obtain ⟨c1, c2, c3, c4, c5⟩ := hc
  have c13 : (0 ≤ nI (W_f w) ∧ nI (W_f w) ≤ 5) ∧ (0 ≤ nI t ∧ nI t < h.2.1 166 2) := ⟨c1, c3⟩
  have eh := m_hold m e72
  have k18 : (18 : Int32) = nI 18 := rfl
  unfold F_X11_canSteal
  refine f_mkE [.ref 166, .int (nI (W_f w)), .int fr, .int (nI t), .int q, .int p] rfl (by simp [argE, Value.category]) ?_
  rw [w_rI, q_tn]
  obtain ⟨d1, d2, d3⟩ := d
  have d4 : ¬ 18 < W_n w := by omega
  rw [q_cand]
  refine ev_T ?_ ⟨fun _ => ?_, (fun z => by cases z)⟩
  · simp only [f_mkF, w_sI, w_sR, w_sL, w_sC, w_sk, w_sbr, w_sco, w_rV, w_rI, w_rR, w_rL, w_dI, w_sO, w_sq, w_si, w_pI, w_pZ, w_pR, w_pU, w_qI, w_qB, w_qZ, w_qU, w_qR, w_kV, q_icst, q_lcst, q_xR, q_ldI, q_ldR, q_ldL, q_bn, q_un, q_dv, q_fI, q_fR, q_aI, q_aR, q_aN, q_tn, q_cmp, q_cmz, q_cnt, q_ctt, q_cand, q_cor, q_vn, q_vI, q_vR, q_vL, q_kI, q_kR, q_kL, q_ckI, envN, argE, List.flatMap_cons, List.flatMap_nil, Value.category, junk, oadd, osub, omul, oand, oor, oxor, odiv, orem, oshl, oshr, oushr, omax, omin]
    simp (disch := first | omega | simp) [rk_i, rk_b, rk_o, st1, kill, Value.category, rcv, nog, inI_b, nI_clamp, nI_ltI, nI_leI, nI_eq, nI_9, nI_6, nI_22, nI_12, nI_180, nI_add, nI_1, fq_of (m_can hn _ _), fq_of (e_m_isLand _ _), fq_of (e_m_isPerson _ _ hn), hn, ly166, ly172, hm 8, mp, ht, e72, fq_of eh, b2_t c13, b2_t c2, b2_t c4, b2_t c5, d1, d2, d3, d4, k18]
  rw [q_cnt, q_cmp, q_ldI]
  refine ⟨p, rfl, ?_⟩
  refine q_kIe [.ref 166, .int (nI (W_f w)), .int (nI t)] (by simp only [f_mkF, w_sI, w_sR, w_sL, w_sC, w_sk, w_sbr, w_sco, w_rV, w_rI, w_rR, w_rL, w_dI, w_sO, w_sq, w_si, w_pI, w_pZ, w_pR, w_pU, w_qI, w_qB, w_qZ, w_qU, w_qR, w_kV, q_icst, q_lcst, q_xR, q_ldI, q_ldR, q_ldL, q_bn, q_un, q_dv, q_fI, q_fR, q_aI, q_aR, q_aN, q_tn, q_cmp, q_cmz, q_cnt, q_ctt, q_cand, q_cor, q_vn, q_vI, q_vR, q_vL, q_kI, q_kR, q_kL, q_ckI, envN, argE, List.flatMap_cons, List.flatMap_nil, Value.category, junk, oadd, osub, omul, oand, oor, oxor, odiv, orem, oshl, oshr, oushr, omax, omin]; simp) (by simp [rcv, hn, ly166]) ?_
  refine fq_mono (m_whose0 m e72 c3.2) ?_
  rintro r h2 ⟨rfl, f2, e41⟩
  refine ⟨_, rfl, ?_⟩
  refine ⟨fun _ => ?_, fun z => ?_⟩
  · simp only [f_mkF, w_sI, w_sR, w_sL, w_sC, w_sk, w_sbr, w_sco, w_rV, w_rI, w_rR, w_rL, w_dI, w_sO, w_sq, w_si, w_pI, w_pZ, w_pR, w_pU, w_qI, w_qB, w_qZ, w_qU, w_qR, w_kV, q_icst, q_lcst, q_xR, q_ldI, q_ldR, q_ldL, q_bn, q_un, q_dv, q_fI, q_fR, q_aI, q_aR, q_aN, q_tn, q_cmp, q_cmz, q_cnt, q_ctt, q_cand, q_cor, q_vn, q_vI, q_vR, q_vL, q_kI, q_kR, q_kL, q_ckI, envN, argE, List.flatMap_cons, List.flatMap_nil, Value.category, junk, oadd, osub, omul, oand, oor, oxor, odiv, orem, oshl, oshr, oushr, omax, omin]
    simp [rk_i, rk_b, rk_o, st1, kill, Value.category, rcv, nog, f2, e41]
  · simp [hpw] at z
def SCh (t n a k : Nat) : Prop := SMk t n a k ∨ a = 210 ∨ SN a k
theorem m_cheap {w : Wd} {t fr : Nat} {h : Hp} (m : MX w t h) (hfr : fr < 6) (e72 : h.2.1 172 t = nI (W_n w)) {q p d : Int32} (hcb : CB h (nI (W_f w)) (nI fr) (nI t) q p) (hc2 : p ≠ q ∧ q ≠ frm (W_R w) (W_fo w) (W_n w) ∧ W_n w ≤ 18) (hd : 0 ≤ d ∧ d ≤ 1) (hpw : p ≠ whz w 0) (hst : ∀ l, l < 6 → WV (stg w q p (nI fr) (nI l))) {C : Nat → Nat → Int32} (hC : ∀ a b, a < 6 → b < 6 → h.2.1 182 (6 * a + b) = C a b) (hcv : CV C) : fq F_X11_cheapest [.ref 166, .int (nI (W_f w)), .int (nI fr), .int (nI t), .int q, .int p, .int d] h fun r h' => r = some (.int (cheA (rds C (fr0 fr) 5) (bst (rds C (fr0 fr) 5) (fun l => decide (whz (stg w q p (nI fr) (nI l)) 0 = p)) 6) d)) ∧ Fr (SCh t (W_n w)) h h' := by
  have hn := m.1.1
  have k6 : (6 : Int32) = nI 6 := rfl
  have h65 : eq6 (rds C (fr0 fr) 6) (rds C (fr0 fr) 5) := fun l hl => rds_65 hcv hfr hl
  generalize hDD : rds C (fr0 fr) 5 = D at *
  generalize hmk : (fun l => decide (whz (stg w q p (nI fr) (nI l)) 0 = p)) = mk
  unfold F_X11_cheapest
  refine f_mkE [.ref 166, .int (nI (W_f w)), .int (nI fr), .int (nI t), .int q, .int p, .int d, junk, junk] rfl (by simp [argE, Value.category]) ?_
  rw [w_sq, w_si, q_cor, q_cnt, q_cnt, q_cmz]
  refine q_kIe [.ref 166, .int (nI (W_f w)), .int (nI fr), .int (nI t), .int q, .int p] (by simp only [f_mkF, w_sI, w_sR, w_sL, w_sC, w_sk, w_sbr, w_sco, w_rV, w_rI, w_rR, w_rL, w_dI, w_sO, w_sq, w_si, w_pI, w_pZ, w_pR, w_pU, w_qI, w_qB, w_qZ, w_qU, w_qR, w_kV, q_icst, q_lcst, q_xR, q_ldI, q_ldR, q_ldL, q_bn, q_un, q_dv, q_fI, q_fR, q_aI, q_aR, q_aN, q_tn, q_cmp, q_cmz, q_cnt, q_ctt, q_cand, q_cor, q_vn, q_vI, q_vR, q_vL, q_kI, q_kR, q_kL, q_ckI, envN, argE, List.flatMap_cons, List.flatMap_nil, Value.category, junk, oadd, osub, omul, oand, oor, oxor, odiv, orem, oshl, oshr, oushr, omax, omin]; simp) (by simp [rcv, hn, ly166]) ?_
  refine fq_mono (m_can2 m e72 hcb hc2 hpw) ?_
  rintro r h1 ⟨rfl, f1, e41⟩
  refine ⟨_, rfl, (fun z => by simp at z), fun _ => ?_⟩
  have hn1 : h1.1 = 212 := f1.1.trans hn
  refine ev_F ?_ ⟨(fun z => by cases z), fun _ => w_sk2.mpr ?_⟩
  · simp only [f_mkF, w_sI, w_sR, w_sL, w_sC, w_sk, w_sbr, w_sco, w_rV, w_rI, w_rR, w_rL, w_dI, w_sO, w_sq, w_si, w_pI, w_pZ, w_pR, w_pU, w_qI, w_qB, w_qZ, w_qU, w_qR, w_kV, q_icst, q_lcst, q_xR, q_ldI, q_ldR, q_ldL, q_bn, q_un, q_dv, q_fI, q_fR, q_aI, q_aR, q_aN, q_tn, q_cmp, q_cmz, q_cnt, q_ctt, q_cand, q_cor, q_vn, q_vI, q_vR, q_vL, q_kI, q_kR, q_kL, q_ckI, envN, argE, List.flatMap_cons, List.flatMap_nil, Value.category, junk, oadd, osub, omul, oand, oor, oxor, odiv, orem, oshl, oshr, oushr, omax, omin]
    simp [rk_i, rk_b, rk_o, st1, kill, Value.category, rcv, nog, fq_of (e_m_in _ _ _ _), b2_t hd]
  have m1 := m.frn f1
  refine w_fz fun B hB Cc hCc => ?_
  simp only [f_mkF, w_sI, w_sR, w_sL, w_sC, w_sk, w_sbr, w_sco, w_rV, w_rI, w_rR, w_rL, w_dI, w_sO, w_sq, w_si, w_pI, w_pZ, w_pR, w_pU, w_qI, w_qB, w_qZ, w_qU, w_qR, w_kV, q_icst, q_lcst, q_xR, q_ldI, q_ldR, q_ldL, q_bn, q_un, q_dv, q_fI, q_fR, q_aI, q_aR, q_aN, q_tn, q_cmp, q_cmz, q_cnt, q_ctt, q_cand, q_cor, q_vn, q_vI, q_vR, q_vL, q_kI, q_kR, q_kL, q_ckI, envN, argE, List.flatMap_cons, List.flatMap_nil, Value.category, junk, oadd, osub, omul, oand, oor, oxor, odiv, orem, oshl, oshr, oushr, omax, omin]
  simp (disch := first | omega | simp) [rk_i, rk_b, rk_o, st1, kill, Value.category, rcv, nog, inI_b, nI_clamp, nI_ltI, nI_leI, nI_eq, nI_9, nI_6, nI_22, nI_12, nI_180, nI_add, nI_1, hn1, ly166]
  refine fq_mono (m_goes m1.1 hfr (C := C) fun a b ha hb => (f1.2.2 _ _ (by unfold SN SM; omega)).trans (hC a b ha hb)) ?_
  rintro r h2 ⟨rfl, f2, e2⟩
  simp
  subst hB hCc
  have e22 : eq6 (h2.2.1 210) D := fun l hl => (e2 l hl).trans (h65 l hl)
  have fr2 : Fr (SCh t (W_n w)) h h2 := (f1.sub fun a k z => Or.inr (Or.inr z)).trans (f2.sub fun a k z => Or.inr (Or.inl z))
  have e412 : h2.2.1 166 41 = nI 0 := (f2.2.2 166 41 (by omega)).trans e41
  refine w_sqI (E' := [.ref 166, .int (nI (W_f w)), .int (nI fr), .int (nI t), .int q, .int p, .int d, .int (-1), junk]) (-1) (by simp only [f_mkF, w_sI, w_sR, w_sL, w_sC, w_sk, w_sbr, w_sco, w_rV, w_rI, w_rR, w_rL, w_dI, w_sO, w_sq, w_si, w_pI, w_pZ, w_pR, w_pU, w_qI, w_qB, w_qZ, w_qU, w_qR, w_kV, q_icst, q_lcst, q_xR, q_ldI, q_ldR, q_ldL, q_bn, q_un, q_dv, q_fI, q_fR, q_aI, q_aR, q_aN, q_tn, q_cmp, q_cmz, q_cnt, q_ctt, q_cand, q_cor, q_vn, q_vI, q_vR, q_vL, q_kI, q_kR, q_kL, q_ckI, envN, argE, List.flatMap_cons, List.flatMap_nil, Value.category, junk, oadd, osub, omul, oand, oor, oxor, odiv, orem, oshl, oshr, oushr, omax, omin]; simp) rfl ?_
  refine w_sq.mpr ?_
  refine w_sqI (E' := [.ref 166, .int (nI (W_f w)), .int (nI fr), .int (nI t), .int q, .int p, .int d, .int (-1), .int (nI 0)]) (nI 0) (by simp only [f_mkF, w_sI, w_sR, w_sL, w_sC, w_sk, w_sbr, w_sco, w_rV, w_rI, w_rR, w_rL, w_dI, w_sO, w_sq, w_si, w_pI, w_pZ, w_pR, w_pU, w_qI, w_qB, w_qZ, w_qU, w_qR, w_kV, q_icst, q_lcst, q_xR, q_ldI, q_ldR, q_ldL, q_bn, q_un, q_dv, q_fI, q_fR, q_aI, q_aR, q_aN, q_tn, q_cmp, q_cmz, q_cnt, q_ctt, q_cand, q_cor, q_vn, q_vI, q_vR, q_vL, q_kI, q_kR, q_kL, q_ckI, envN, argE, List.flatMap_cons, List.flatMap_nil, Value.category, junk, oadd, osub, omul, oand, oor, oxor, odiv, orem, oshl, oshr, oushr, omax, omin]; simp [nI_0]) rfl ?_
  refine wp_mono (w_lp (Q := fun o _ E1 h' => o = 0 ∧ (∃ x, E1 = [.ref 166, .int (nI (W_f w)), .int (nI fr), .int (nI t), .int q, .int p, .int d, .int (ofB (-1) (bst D mk 6)), x]) ∧ Fr (SCh t (W_n w)) h h' ∧ eq6 (h'.2.1 210) D) (fun k E h' => ∃ l, k = 6 - l ∧ l ≤ 6 ∧ E = [.ref 166, .int (nI (W_f w)), .int (nI fr), .int (nI t), .int q, .int p, .int d, .int (ofB (-1) (bst D mk l)), .int (nI l)] ∧ Fr (SCh t (W_n w)) h h' ∧ eq6 (h'.2.1 210) D ∧ h'.2.1 166 41 = nI 0) ?_ 6 _ _ ⟨0, rfl, by omega, rfl, fr2, e22, e412⟩) ?_
  · rintro k E h' ⟨l, rfl, hl, rfl, f3, e3, e413⟩
    by_cases hl6 : l < 6
    · refine ev_T ?_ ⟨fun z => (by cases z), fun _ => ?_⟩
      · simp only [f_mkF, w_sI, w_sR, w_sL, w_sC, w_sk, w_sbr, w_sco, w_rV, w_rI, w_rR, w_rL, w_dI, w_sO, w_sq, w_si, w_pI, w_pZ, w_pR, w_pU, w_qI, w_qB, w_qZ, w_qU, w_qR, w_kV, q_icst, q_lcst, q_xR, q_ldI, q_ldR, q_ldL, q_bn, q_un, q_dv, q_fI, q_fR, q_aI, q_aR, q_aN, q_tn, q_cmp, q_cmz, q_cnt, q_ctt, q_cand, q_cor, q_vn, q_vI, q_vR, q_vL, q_kI, q_kR, q_kL, q_ckI, envN, argE, List.flatMap_cons, List.flatMap_nil, Value.category, junk, oadd, osub, omul, oand, oor, oxor, odiv, orem, oshl, oshr, oushr, omax, omin]
        simp (disch := first | omega | simp) [rk_i, rk_b, rk_o, st1, kill, Value.category, rcv, nog, inI_b, nI_clamp, nI_ltI, nI_leI, nI_eq, nI_9, nI_6, nI_22, nI_12, nI_180, nI_add, nI_1, k6, hl6]
      have m3 : MX w t h' := by
        obtain ⟨q1, q2, q3, ⟨q4, q5, q6⟩, q7, q8, q9, q10, q11⟩ := m
        have n20 := q11.1
        refine ⟨f3.ip q1, q2, fun i k hi hk => ?_, ⟨(f3.2.2 169 t (by unfold SCh SMk SN SM; omega)).trans q4, (f3.2.2 170 t (by unfold SCh SMk SN SM; omega)).trans q5, (f3.2.2 171 t (by unfold SCh SMk SN SM; omega)).trans q6⟩, (f3.2.2 166 0 (by unfold SCh SMk SN SM; omega)).trans q7, fun k => (f3.2.2 167 k (by unfold SCh SMk SN SM; omega)).trans (q8 k), fun l k hl hk => (f3.2.2 181 _ (by unfold SCh SMk SN SM; omega)).trans (q9 l k hl hk), fun l hl => LM_e (fun a k h1 h2 => f3.2.2 a k (by unfold SCh SMk SN SM; omega)) (q10 l hl), q11⟩
        unfold mrow
        rw [f3.2.2 _ _ (by unfold SCh SMk SN SM; omega)]
        exact q3 i k hi hk
      have hn3 := m3.1.1
      have hm3 := m3.1.2.2
      have el := e3 l hl6
      have e723 : h'.2.1 172 t = nI (W_n w) := (f3.2.2 172 t (by unfold SCh SMk SN SM; omega)).trans e72
      have hmkl : mk l = decide (whz (stg w q p (nI fr) (nI l)) 0 = p) := by rw [← hmk]
      have hbs : bst D mk (l + 1) = if D l ≠ -1 ∧ chp D (bst D mk l) l = true ∧ mk l = true then some l else bst D mk l := rfl
      have hnext : ∀ (h6 : Hp) (o : Option Nat), o = bst D mk (l + 1) → Fr (SCh t (W_n w)) h h6 → eq6 (h6.2.1 210) D → h6.2.1 166 41 = nI 0 → wp (sC 8 1) [.ref 166, .int (nI (W_f w)), .int (nI fr), .int (nI t), .int q, .int p, .int d, .int (ofB (-1) o), .int (nI l)] h6 fun o2 _ E2 h3 => o2 = 0 ∧ ∃ k2, k2 < 6 - l ∧ ∃ l, k2 = 6 - l ∧ l ≤ 6 ∧ E2 = [.ref 166, .int (nI (W_f w)), .int (nI fr), .int (nI t), .int q, .int p, .int d, .int (ofB (-1) (bst D mk l)), .int (nI l)] ∧ Fr (SCh t (W_n w)) h h3 ∧ eq6 (h3.2.1 210) D ∧ h3.2.1 166 41 = nI 0 := by
        intro h6 o ho f6 e6 s6
        subst ho
        refine w_sCe (nI l) (nI (l + 1)) rfl (nI_1 _) rfl ⟨rfl, 6 - (l + 1), by omega, l + 1, rfl, by omega, rfl, f6, e6, s6⟩
      have hc1 : ev (cand (cnt (cmp oeq (aI 13 (fR 11 60 (ldR 0)) (ldI 8)) (icst (-1)))) (cor (cmp oeq (ldI 7) (icst (-1))) (cnt (cmp oge (aI 13 (fR 11 60 (ldR 0)) (ldI 8)) (aI 13 (fR 11 60 (ldR 0)) (ldI 7)))))) [.ref 166, .int (nI (W_f w)), .int (nI fr), .int (nI t), .int q, .int p, .int d, .int (ofB (-1) (bst D mk l)), .int (nI l)] h' fun t1 h4 => t1 = decide (D l ≠ -1 ∧ chp D (bst D mk l) l = true) ∧ h4 = h' := by
        by_cases c3 : D l = -1
        · simp only [f_mkF, w_sI, w_sR, w_sL, w_sC, w_sk, w_sbr, w_sco, w_rV, w_rI, w_rR, w_rL, w_dI, w_sO, w_sq, w_si, w_pI, w_pZ, w_pR, w_pU, w_qI, w_qB, w_qZ, w_qU, w_qR, w_kV, q_icst, q_lcst, q_xR, q_ldI, q_ldR, q_ldL, q_bn, q_un, q_dv, q_fI, q_fR, q_aI, q_aR, q_aN, q_tn, q_cmp, q_cmz, q_cnt, q_ctt, q_cand, q_cor, q_vn, q_vI, q_vR, q_vL, q_kI, q_kR, q_kL, q_ckI, envN, argE, List.flatMap_cons, List.flatMap_nil, Value.category, junk, oadd, osub, omul, oand, oor, oxor, odiv, orem, oshl, oshr, oushr, omax, omin]
          simp (disch := first | omega | simp) [rk_i, rk_b, rk_o, st1, kill, Value.category, rcv, nog, inI_b, nI_clamp, nI_ltI, nI_leI, nI_eq, nI_9, nI_6, nI_22, nI_12, nI_180, nI_add, nI_1, hn3, ly166, ly210, hm3 60, mp, hl6, el, c3]
        · cases ho : bst D mk l with
          | none =>
            simp only [f_mkF, w_sI, w_sR, w_sL, w_sC, w_sk, w_sbr, w_sco, w_rV, w_rI, w_rR, w_rL, w_dI, w_sO, w_sq, w_si, w_pI, w_pZ, w_pR, w_pU, w_qI, w_qB, w_qZ, w_qU, w_qR, w_kV, q_icst, q_lcst, q_xR, q_ldI, q_ldR, q_ldL, q_bn, q_un, q_dv, q_fI, q_fR, q_aI, q_aR, q_aN, q_tn, q_cmp, q_cmz, q_cnt, q_ctt, q_cand, q_cor, q_vn, q_vI, q_vR, q_vL, q_kI, q_kR, q_kL, q_ckI, envN, argE, List.flatMap_cons, List.flatMap_nil, Value.category, junk, oadd, osub, omul, oand, oor, oxor, odiv, orem, oshl, oshr, oushr, omax, omin]
            simp (disch := first | omega | simp) [rk_i, rk_b, rk_o, st1, kill, Value.category, rcv, nog, inI_b, nI_clamp, nI_ltI, nI_leI, nI_eq, nI_9, nI_6, nI_22, nI_12, nI_180, nI_add, nI_1, hn3, ly166, ly210, hm3 60, mp, hl6, el, c3, ofB, chp]
          | some b =>
            have hb : b < 6 := by have := bst_lt l b ho; omega
            have eb := e3 b hb
            have hbm : ¬ nI b = -1 := m1_ne (by omega)
            simp only [f_mkF, w_sI, w_sR, w_sL, w_sC, w_sk, w_sbr, w_sco, w_rV, w_rI, w_rR, w_rL, w_dI, w_sO, w_sq, w_si, w_pI, w_pZ, w_pR, w_pU, w_qI, w_qB, w_qZ, w_qU, w_qR, w_kV, q_icst, q_lcst, q_xR, q_ldI, q_ldR, q_ldL, q_bn, q_un, q_dv, q_fI, q_fR, q_aI, q_aR, q_aN, q_tn, q_cmp, q_cmz, q_cnt, q_ctt, q_cand, q_cor, q_vn, q_vI, q_vR, q_vL, q_kI, q_kR, q_kL, q_ckI, envN, argE, List.flatMap_cons, List.flatMap_nil, Value.category, junk, oadd, osub, omul, oand, oor, oxor, odiv, orem, oshl, oshr, oushr, omax, omin]
            by_cases c4 : D l < D b
            · simp (disch := first | omega | simp) [rk_i, rk_b, rk_o, st1, kill, Value.category, rcv, nog, inI_b, nI_clamp, nI_ltI, nI_leI, nI_eq, nI_9, nI_6, nI_22, nI_12, nI_180, nI_add, nI_1, hn3, ly166, ly210, hm3 60, mp, hl6, hb, el, eb, c3, c4, ofB, chp, hbm]
            · simp (disch := first | omega | simp) [rk_i, rk_b, rk_o, st1, kill, Value.category, rcv, nog, inI_b, nI_clamp, nI_ltI, nI_leI, nI_eq, nI_9, nI_6, nI_22, nI_12, nI_180, nI_add, nI_1, hn3, ly166, ly210, hm3 60, mp, hl6, hb, el, eb, c3, c4, ofB, chp, hbm]
              try exact Int32.not_lt.mp c4
      rw [w_si, q_cand]
      refine ev_mono hc1 ?_
      rintro t1 h4 ⟨rfl, rfl⟩
      refine ⟨fun c1 => ?_, fun c1 => ?_⟩
      · rw [decide_eq_true_iff] at c1
        rw [q_cnt, q_cmz]
        refine q_kIe [.ref 166, .int (nI (W_f w)), .int (nI t), .int (nI fr), .int q, .int p, .int (nI l)] (by simp only [f_mkF, w_sI, w_sR, w_sL, w_sC, w_sk, w_sbr, w_sco, w_rV, w_rI, w_rR, w_rL, w_dI, w_sO, w_sq, w_si, w_pI, w_pZ, w_pR, w_pU, w_qI, w_qB, w_qZ, w_qU, w_qR, w_kV, q_icst, q_lcst, q_xR, q_ldI, q_ldR, q_ldL, q_bn, q_un, q_dv, q_fI, q_fR, q_aI, q_aR, q_aN, q_tn, q_cmp, q_cmz, q_cnt, q_ctt, q_cand, q_cor, q_vn, q_vI, q_vR, q_vL, q_kI, q_kR, q_kL, q_ckI, envN, argE, List.flatMap_cons, List.flatMap_nil, Value.category, junk, oadd, osub, omul, oand, oor, oxor, odiv, orem, oshl, oshr, oushr, omax, omin]; simp) (by simp [rcv, hn3, ly166]) ?_
        refine fq_mono (m_makes m3 e723 e413 (by omega) (hst l hl6)) ?_
        rintro r h6 ⟨rfl, f6⟩
        refine ⟨_, rfl, ?_⟩
        have g6 : Fr (SCh t (W_n w)) h h6 := f3.trans (f6.sub fun a k z => Or.inl z)
        have e6 : eq6 (h6.2.1 210) D := fun k hk => (f6.2.2 210 k (by unfold SMk SM; omega)).trans (e3 k hk)
        have s6 : h6.2.1 166 41 = nI 0 := (f6.2.2 166 41 (by unfold SMk SM; omega)).trans e413
        by_cases c2 : whz (stg w q p (nI fr) (nI l)) 0 = p
        · refine ⟨fun _ => ?_, fun z => by simp [c2, b2] at z⟩
          refine w_sIe (nI l) (by simp only [f_mkF, w_sI, w_sR, w_sL, w_sC, w_sk, w_sbr, w_sco, w_rV, w_rI, w_rR, w_rL, w_dI, w_sO, w_sq, w_si, w_pI, w_pZ, w_pR, w_pU, w_qI, w_qB, w_qZ, w_qU, w_qR, w_kV, q_icst, q_lcst, q_xR, q_ldI, q_ldR, q_ldL, q_bn, q_un, q_dv, q_fI, q_fR, q_aI, q_aR, q_aN, q_tn, q_cmp, q_cmz, q_cnt, q_ctt, q_cand, q_cor, q_vn, q_vI, q_vR, q_vL, q_kI, q_kR, q_kL, q_ckI, envN, argE, List.flatMap_cons, List.flatMap_nil, Value.category, junk, oadd, osub, omul, oand, oor, oxor, odiv, orem, oshl, oshr, oushr, omax, omin]; simp) rfl ⟨fun _ => hnext h6 (some l) ?_ g6 e6 s6, (fun z => by cases z), fun z => absurd rfl z⟩
          rw [hbs, if_pos ⟨c1.1, c1.2, by rw [hmkl]; simp [c2]⟩]
        · refine ⟨fun z => by simp [c2, b2] at z, fun _ => ?_⟩
          rw [w_sk]
          refine ⟨fun _ => hnext h6 (bst D mk l) ?_ g6 e6 s6, (fun z => by cases z), fun z => absurd rfl z⟩
          rw [hbs, if_neg (fun z => by have := z.2.2; rw [hmkl] at this; simp [c2] at this)]
      · rw [decide_eq_false_iff_not] at c1
        refine ⟨(fun z => by cases z), fun _ => ?_⟩
        rw [w_sk]
        refine ⟨fun _ => hnext h4 (bst D mk l) ?_ f3 e3 e413, (fun z => by cases z), fun z => absurd rfl z⟩
        rw [hbs, if_neg (fun z => c1 ⟨z.1, z.2.1⟩)]
    · have : l = 6 := by omega
      subst this
      refine ev_F ?_ ⟨fun _ => ⟨rfl, ⟨_, rfl⟩, f3, e3⟩, fun z => (by cases z)⟩
      simp only [f_mkF, w_sI, w_sR, w_sL, w_sC, w_sk, w_sbr, w_sco, w_rV, w_rI, w_rR, w_rL, w_dI, w_sO, w_sq, w_si, w_pI, w_pZ, w_pR, w_pU, w_qI, w_qB, w_qZ, w_qU, w_qR, w_kV, q_icst, q_lcst, q_xR, q_ldI, q_ldR, q_ldL, q_bn, q_un, q_dv, q_fI, q_fR, q_aI, q_aR, q_aN, q_tn, q_cmp, q_cmz, q_cnt, q_ctt, q_cand, q_cor, q_vn, q_vI, q_vR, q_vL, q_kI, q_kR, q_kL, q_ckI, envN, argE, List.flatMap_cons, List.flatMap_nil, Value.category, junk, oadd, osub, omul, oand, oor, oxor, odiv, orem, oshl, oshr, oushr, omax, omin]
      simp (disch := first | omega | simp) [rk_i, rk_b, rk_o, st1, kill, Value.category, rcv, nog, inI_b, nI_clamp, nI_ltI, nI_leI, nI_eq, nI_9, nI_6, nI_22, nI_12, nI_180, nI_add, nI_1, k6]
  · rintro o v E1 h6 ⟨rfl, ⟨x, rfl⟩, f6, e6⟩
    refine ⟨fun _ => ?_, fun z => absurd rfl z⟩
    have ip6 := f6.ip m.1
    have hn6 := ip6.1
    have hm6 := ip6.2.2
    rw [w_rI]
    refine ev_mono (P := fun v h8 => v = cheA D (bst D mk 6) d ∧ h8 = h6) ?_ ?_
    · cases ho : bst D mk 6 with
      | none =>
        simp only [f_mkF, w_sI, w_sR, w_sL, w_sC, w_sk, w_sbr, w_sco, w_rV, w_rI, w_rR, w_rL, w_dI, w_sO, w_sq, w_si, w_pI, w_pZ, w_pR, w_pU, w_qI, w_qB, w_qZ, w_qU, w_qR, w_kV, q_icst, q_lcst, q_xR, q_ldI, q_ldR, q_ldL, q_bn, q_un, q_dv, q_fI, q_fR, q_aI, q_aR, q_aN, q_tn, q_cmp, q_cmz, q_cnt, q_ctt, q_cand, q_cor, q_vn, q_vI, q_vR, q_vL, q_kI, q_kR, q_kL, q_ckI, envN, argE, List.flatMap_cons, List.flatMap_nil, Value.category, junk, oadd, osub, omul, oand, oor, oxor, odiv, orem, oshl, oshr, oushr, omax, omin]
        simp [ofB, cheA]
      | some b =>
        have hb := bst_lt 6 b ho
        have eb := e6 b hb
        have hbm : ¬ nI b = -1 := m1_ne (by omega)
        simp only [f_mkF, w_sI, w_sR, w_sL, w_sC, w_sk, w_sbr, w_sco, w_rV, w_rI, w_rR, w_rL, w_dI, w_sO, w_sq, w_si, w_pI, w_pZ, w_pR, w_pU, w_qI, w_qB, w_qZ, w_qU, w_qR, w_kV, q_icst, q_lcst, q_xR, q_ldI, q_ldR, q_ldL, q_bn, q_un, q_dv, q_fI, q_fR, q_aI, q_aR, q_aN, q_tn, q_cmp, q_cmz, q_cnt, q_ctt, q_cand, q_cor, q_vn, q_vI, q_vR, q_vL, q_kI, q_kR, q_kL, q_ckI, envN, argE, List.flatMap_cons, List.flatMap_nil, Value.category, junk, oadd, osub, omul, oand, oor, oxor, odiv, orem, oshl, oshr, oushr, omax, omin]
        by_cases hd0 : d = 0
        · simp [ofB, cheA, hd0, hbm]
        · simp (disch := first | omega | simp) [rk_i, rk_b, rk_o, st1, kill, Value.category, rcv, nog, inI_b, nI_clamp, nI_ltI, nI_leI, nI_eq, nI_9, nI_6, nI_22, nI_12, nI_180, nI_add, nI_1, hn6, ly166, ly210, hm6 60, mp, hb, ofB, cheA, hbm, eb, hd0]
    · rintro v h8 ⟨rfl, rfl⟩
      exact Or.inr ⟨rfl, rfl, rfl, f6⟩
/-- what is needed of the world for a theft and a sale -/
theorem stg_of {n : Nat} {h : Hp} (i : INV LWc n h) {t fr : Nat} (ht : t < 4) (hfr : fr < 6) {w : Wd} (hw : WV w) (hwo : W_wo w = h.2.1 169 t) {f q p : Int32} (hcb : CB h f (nI fr) (nI t) q p) (h18 : W_n w ≤ 18) : ∀ l, l < 6 → WV (stg w q p (nI fr) (nI l)) := by
  intro l hl
  have q2 := i.2.2.1
  have q6 := i.2.2.2.2.2.2.1
  have z := (q6.2.2 t ht).2.2.2 (by
    have := hcb.2.2.1.2
    rw [Int32.lt_iff_toInt_lt, nI_toInt (by omega)] at this
    omega)
  have np := q2.2.1.2
  have a1 := Int32.le_iff_toInt_le.mp hcb.2.2.2.1.1
  have a2 := Int32.lt_iff_toInt_lt.mp hcb.2.2.2.1.2
  have a3 := Int32.le_iff_toInt_le.mp hcb.2.2.2.2.1
  have a4 := Int32.lt_iff_toInt_lt.mp hcb.2.2.2.2.2
  have z0 : (0 : Int32).toInt = 0 := rfl
  refine stg_wv hw h18 ⟨by omega, by omega⟩ ⟨by omega, by omega⟩ ⟨by rw [nI_toInt (by omega)]; omega, by rw [nI_toInt (by omega)]; omega⟩ ⟨by rw [nI_toInt (by omega)]; omega, by rw [nI_toInt (by omega)]; omega⟩ (by rw [hwo]; exact z.1)
theorem roa_of {n : Nat} {h : Hp} (i : INV LWc n h) : (∀ a b, a < 6 → b < 6 → h.2.1 (16 + a) b = (fun a b => h.2.1 182 (6 * a + b)) a b) ∧ CV (fun a b => h.2.1 182 (6 * a + b)) := by
  have q4 := i.2.2.2.2.1
  exact ⟨fun a b ha hb => (q4 a b ha hb).1, fun a b ha hb => (q4 a b ha hb).2⟩
theorem inv_m {n : Nat} {h h2 : Hp} (i : INV LWc n h) (f : Fr SN h h2) : INV LWc (n + 1) h2 := inv_j i (Fj.refl h) f SN_ok (by omega) (inv_ic i)
theorem g_cheapest : AG (INV LWc) F_X10_cheapest F_X11_cheapest 6 := by
  intro n h vs hl hn5 i
  match vs, hl with
  | [a, b, c, q, p, d], _ =>
    have hn := i.1.1
    by_cases hcb : CB h a b c q p
    · obtain ⟨f, hf, rfl⟩ := land_num hcb.1
      obtain ⟨fr, hfr, rfl⟩ := land_num hcb.2.1
      obtain ⟨t, ht, rfl⟩ := th_num i hcb.2.2.1.1 hcb.2.2.1.2
      obtain ⟨w, ra, y, m, e72, rfl, hno, hR, ⟨hwo, hfo⟩, hj, hv, -⟩ := wd_of i hf ht hcb.2.2.1.2
      have e1 := x_can1 i hcb ht y
      by_cases hd : 0 ≤ d ∧ d ≤ 1
      · by_cases hc2 : p ≠ q ∧ q ≠ frm (W_R w) (W_fo w) (W_n w) ∧ W_n w ≤ 18
        · by_cases hpw : p = whz w 0
          · have X : fq F_X10_cheapest [.ref 0, .int (nI (W_f w)), .int (nI fr), .int (nI t), .int q, .int p, .int d] h fun r h' => r = some (.int (-1)) ∧ Fj h h' ∧ IC (20 * n + 1) h' := by
              rw [b2_t hc2] at e1
              unfold F_X10_cheapest
              refine f_mkE [.ref 0, .int (nI (W_f w)), .int (nI fr), .int (nI t), .int q, .int p, .int d, junk, junk, junk, junk] rfl (by simp [argE, Value.category]) ?_
              rw [w_sq, w_si, q_cor]
              refine ev_F ?_ ⟨(fun z => by cases z), fun _ => ?_⟩
              · simp only [f_mkF, w_sI, w_sR, w_sL, w_sC, w_sk, w_sbr, w_sco, w_rV, w_rI, w_rR, w_rL, w_dI, w_sO, w_sq, w_si, w_pI, w_pZ, w_pR, w_pU, w_qI, w_qB, w_qZ, w_qU, w_qR, w_kV, q_icst, q_lcst, q_xR, q_ldI, q_ldR, q_ldL, q_bn, q_un, q_dv, q_fI, q_fR, q_aI, q_aR, q_aN, q_tn, q_cmp, q_cmz, q_cnt, q_ctt, q_cand, q_cor, q_vn, q_vI, q_vR, q_vL, q_kI, q_kR, q_kL, q_ckI, envN, argE, List.flatMap_cons, List.flatMap_nil, Value.category, junk, oadd, osub, omul, oand, oor, oxor, odiv, orem, oshl, oshr, oushr, omax, omin]
                simp [rk_i, rk_b, rk_o, st1, kill, Value.category, rcv, nog, hn, ly0, fq_of (e_x_isWithin _ _ _ _), fq_of e1, b2_0, hd, zeq, zne]
              rw [q_cnt, q_cmp, q_ldI]
              refine ⟨p, rfl, ?_⟩
              refine q_kIe [.ref 0, .int (nI (W_f w)), .int (nI t)] (by simp only [f_mkF, w_sI, w_sR, w_sL, w_sC, w_sk, w_sbr, w_sco, w_rV, w_rI, w_rR, w_rL, w_dI, w_sO, w_sq, w_si, w_pI, w_pZ, w_pR, w_pU, w_qI, w_qB, w_qZ, w_qU, w_qR, w_kV, q_icst, q_lcst, q_xR, q_ldI, q_ldR, q_ldL, q_bn, q_un, q_dv, q_fI, q_fR, q_aI, q_aR, q_aN, q_tn, q_cmp, q_cmz, q_cnt, q_ctt, q_cand, q_cor, q_vn, q_vI, q_vR, q_vL, q_kI, q_kR, q_kL, q_ckI, envN, argE, List.flatMap_cons, List.flatMap_nil, Value.category, junk, oadd, osub, omul, oand, oor, oxor, odiv, orem, oshl, oshr, oushr, omax, omin]; simp) (by simp [rcv, hn, ly0]) ?_
              refine fq_mono (x_judge y (by omega) (inv_ic i) ht rfl (by rw [i.2.1.1, hno])) ?_
              rintro r h1 ⟨rfl, fj, ic, cx, -⟩
              refine ⟨_, rfl, fun _ => ?_, fun z => by simp [hpw] at z⟩
              simp only [f_mkF, w_sI, w_sR, w_sL, w_sC, w_sk, w_sbr, w_sco, w_rV, w_rI, w_rR, w_rL, w_dI, w_sO, w_sq, w_si, w_pI, w_pZ, w_pR, w_pU, w_qI, w_qB, w_qZ, w_qU, w_qR, w_kV, q_icst, q_lcst, q_xR, q_ldI, q_ldR, q_ldL, q_bn, q_un, q_dv, q_fI, q_fR, q_aI, q_aR, q_aN, q_tn, q_cmp, q_cmz, q_cnt, q_ctt, q_cand, q_cor, q_vn, q_vI, q_vR, q_vL, q_kI, q_kR, q_kL, q_ckI, envN, argE, List.flatMap_cons, List.flatMap_nil, Value.category, junk, oadd, osub, omul, oand, oor, oxor, odiv, orem, oshl, oshr, oushr, omax, omin]
              simp [rk_i, rk_b, rk_o, st1, kill, Value.category, rcv, nog, fj, ic]
            obtain ⟨r, h1, x1, rfl, fj, ic⟩ := X
            have m1 := m.fj fj
            have hn1 := m1.1.1
            have e72' : h1.2.1 172 t = nI (W_n w) := (fj.2.2 172 t (by unfold SJ SX; omega)).trans e72
            have hcb1 : CB h1 (nI (W_f w)) (nI fr) (nI t) q p := by
              unfold CB
              rw [fj.2.2 166 2 (by unfold SJ SX; omega), fj.2.2 166 1 (by unfold SJ SX; omega)]
              exact hcb
            have Y : fq F_X11_cheapest [.ref 166, .int (nI (W_f w)), .int (nI fr), .int (nI t), .int q, .int p, .int d] h1 fun r h' => r = some (.int (-1)) ∧ Fr SN h1 h' := by
              unfold F_X11_cheapest
              refine f_mkE [.ref 166, .int (nI (W_f w)), .int (nI fr), .int (nI t), .int q, .int p, .int d, junk, junk] rfl (by simp [argE, Value.category]) ?_
              rw [w_sq, w_si, q_cor, q_cnt, q_cnt, q_cmz]
              refine q_kIe [.ref 166, .int (nI (W_f w)), .int (nI fr), .int (nI t), .int q, .int p] (by simp only [f_mkF, w_sI, w_sR, w_sL, w_sC, w_sk, w_sbr, w_sco, w_rV, w_rI, w_rR, w_rL, w_dI, w_sO, w_sq, w_si, w_pI, w_pZ, w_pR, w_pU, w_qI, w_qB, w_qZ, w_qU, w_qR, w_kV, q_icst, q_lcst, q_xR, q_ldI, q_ldR, q_ldL, q_bn, q_un, q_dv, q_fI, q_fR, q_aI, q_aR, q_aN, q_tn, q_cmp, q_cmz, q_cnt, q_ctt, q_cand, q_cor, q_vn, q_vI, q_vR, q_vL, q_kI, q_kR, q_kL, q_ckI, envN, argE, List.flatMap_cons, List.flatMap_nil, Value.category, junk, oadd, osub, omul, oand, oor, oxor, odiv, orem, oshl, oshr, oushr, omax, omin]; simp) (by simp [rcv, hn1, ly166]) ?_
              refine fq_mono (m_can1 m1 e72' hcb1) ?_
              rintro r h2 ⟨rfl, f2⟩
              refine ⟨_, rfl, fun _ => ⟨fun _ => ?_, fun z => by cases z⟩, fun z => ?_⟩
              · simp only [f_mkF, w_sI, w_sR, w_sL, w_sC, w_sk, w_sbr, w_sco, w_rV, w_rI, w_rR, w_rL, w_dI, w_sO, w_sq, w_si, w_pI, w_pZ, w_pR, w_pU, w_qI, w_qB, w_qZ, w_qU, w_qR, w_kV, q_icst, q_lcst, q_xR, q_ldI, q_ldR, q_ldL, q_bn, q_un, q_dv, q_fI, q_fR, q_aI, q_aR, q_aN, q_tn, q_cmp, q_cmz, q_cnt, q_ctt, q_cand, q_cor, q_vn, q_vI, q_vR, q_vL, q_kI, q_kR, q_kL, q_ckI, envN, argE, List.flatMap_cons, List.flatMap_nil, Value.category, junk, oadd, osub, omul, oand, oor, oxor, odiv, orem, oshl, oshr, oushr, omax, omin]
                simp [rk_i, rk_b, rk_o, st1, kill, Value.category, rcv, nog, f2]
              · rw [b2_f (fun y => y.2 hpw)] at z
                simp at z
            obtain ⟨r, h2, x2, rfl, f2⟩ := Y
            exact ⟨-1, h1, h2, x1, hn1, x2, inv_j i fj f2 SN_ok (by omega) ic⟩
          · have hst := stg_of i ht hfr y.2.2.2.2.2.2 hwo hcb hc2.2.2
            obtain ⟨hC, hcv⟩ := roa_of i
            obtain ⟨r, h1, x1, rfl, fz, z7, ic⟩ := x_cheap hn5 i ht hfr y hno hj hcb hc2 hd hpw hst hC
            have tra := y.2.1.2.2.1 (W_n w) (by omega)
            have tra2 := y.2.1.2.2.1 (W_n w + 1) (by omega)
            have tT := ty9 y.2.1.1.2.1 y.2.1.1.2.2.1 y.2.1.1.2.2.2.1
            have e66 : ∀ a k, 166 ≤ a → h1.2.1 a k = h.2.1 a k := fun a k z => fz.2.2.2 a k (by unfold SK2; omega) (by omega) (by omega) (by omega)
            have ip1 : Ip h1 := by
              refine ⟨fz.1.trans hn, fun x hx => ?_, fun k => ?_⟩
              · have s1 := spl_q x hx
                have s2 := spl_n x hx
                rw [fz.2.1 _ _ (by omega) (fun z => s1 (Or.inl z))]; exact i.1.2.1 x hx
              · rw [fz.2.1 _ _ (by omega) (by omega)]; exact i.1.2.2 k
            have m1 : MX w t h1 := m.gen ip1 fun a k z => e66 a k (by omega)
            have hcb1 : CB h1 (nI (W_f w)) (nI fr) (nI t) q p := by
              unfold CB
              rw [e66 166 2 (by omega), e66 166 1 (by omega)]
              exact hcb
            obtain ⟨r, h2, x2, rfl, f2⟩ := m_cheap m1 hfr ((e66 172 t (by omega)).trans e72) hcb1 hc2 hd hpw hst (C := fun a b => h.2.1 182 (6 * a + b)) (fun a b ha hb => e66 182 _ (by omega)) hcv
            refine ⟨_, h1, h2, x1, ip1.1, x2, inv_z i ht y e72 hR hj hc2.2.2 hv fz z7 f2 (fun a k z => ?_) (by omega) ic⟩
            unfold SCh SMk SN SM at z
            omega
        · have X : F_X10_cheapest [.ref 0, .int (nI (W_f w)), .int (nI fr), .int (nI t), .int q, .int p, .int d] h = some (some (.int (-1)), h) := by
            rw [b2_f hc2] at e1
            rw [← fq_eq]
            unfold F_X10_cheapest
            refine f_mkE _ rfl (by simp [argE, Value.category]) ?_
            rw [w_sq, w_si, q_cor]
            refine ev_T ?_ ⟨fun _ => ⟨fun _ => ?_, fun z => by cases z⟩, (fun z => by cases z)⟩
            · simp only [f_mkF, w_sI, w_sR, w_sL, w_sC, w_sk, w_sbr, w_sco, w_rV, w_rI, w_rR, w_rL, w_dI, w_sO, w_sq, w_si, w_pI, w_pZ, w_pR, w_pU, w_qI, w_qB, w_qZ, w_qU, w_qR, w_kV, q_icst, q_lcst, q_xR, q_ldI, q_ldR, q_ldL, q_bn, q_un, q_dv, q_fI, q_fR, q_aI, q_aR, q_aN, q_tn, q_cmp, q_cmz, q_cnt, q_ctt, q_cand, q_cor, q_vn, q_vI, q_vR, q_vL, q_kI, q_kR, q_kL, q_ckI, envN, argE, List.flatMap_cons, List.flatMap_nil, Value.category, junk, oadd, osub, omul, oand, oor, oxor, odiv, orem, oshl, oshr, oushr, omax, omin]
              simp [rk_i, rk_b, rk_o, st1, kill, Value.category, rcv, nog, hn, ly0, fq_of (e_x_isWithin _ _ _ _), fq_of e1, b2_0, hd, zeq, zne]
            · simp only [f_mkF, w_sI, w_sR, w_sL, w_sC, w_sk, w_sbr, w_sco, w_rV, w_rI, w_rR, w_rL, w_dI, w_sO, w_sq, w_si, w_pI, w_pZ, w_pR, w_pU, w_qI, w_qB, w_qZ, w_qU, w_qR, w_kV, q_icst, q_lcst, q_xR, q_ldI, q_ldR, q_ldL, q_bn, q_un, q_dv, q_fI, q_fR, q_aI, q_aR, q_aN, q_tn, q_cmp, q_cmz, q_cnt, q_ctt, q_cand, q_cor, q_vn, q_vI, q_vR, q_vL, q_kI, q_kR, q_kL, q_ckI, envN, argE, List.flatMap_cons, List.flatMap_nil, Value.category, junk, oadd, osub, omul, oand, oor, oxor, odiv, orem, oshl, oshr, oushr, omax, omin]; simp [rk_i, rk_b, rk_o, st1, kill, Value.category, rcv, nog]
          have Y : fq F_X11_cheapest [.ref 166, .int (nI (W_f w)), .int (nI fr), .int (nI t), .int q, .int p, .int d] h fun r h' => r = some (.int (-1)) ∧ Fr SN h h' := by
            unfold F_X11_cheapest
            refine f_mkE [.ref 166, .int (nI (W_f w)), .int (nI fr), .int (nI t), .int q, .int p, .int d, junk, junk] rfl (by simp [argE, Value.category]) ?_
            rw [w_sq, w_si, q_cor, q_cnt, q_cnt, q_cmz]
            refine q_kIe [.ref 166, .int (nI (W_f w)), .int (nI fr), .int (nI t), .int q, .int p] (by simp only [f_mkF, w_sI, w_sR, w_sL, w_sC, w_sk, w_sbr, w_sco, w_rV, w_rI, w_rR, w_rL, w_dI, w_sO, w_sq, w_si, w_pI, w_pZ, w_pR, w_pU, w_qI, w_qB, w_qZ, w_qU, w_qR, w_kV, q_icst, q_lcst, q_xR, q_ldI, q_ldR, q_ldL, q_bn, q_un, q_dv, q_fI, q_fR, q_aI, q_aR, q_aN, q_tn, q_cmp, q_cmz, q_cnt, q_ctt, q_cand, q_cor, q_vn, q_vI, q_vR, q_vL, q_kI, q_kR, q_kL, q_ckI, envN, argE, List.flatMap_cons, List.flatMap_nil, Value.category, junk, oadd, osub, omul, oand, oor, oxor, odiv, orem, oshl, oshr, oushr, omax, omin]; simp) (by simp [rcv, hn, ly166]) ?_
            refine fq_mono (m_can1 m e72 hcb) ?_
            rintro r h2 ⟨rfl, f2⟩
            refine ⟨_, rfl, fun _ => ⟨fun _ => ?_, fun z => by cases z⟩, fun z => ?_⟩
            · simp only [f_mkF, w_sI, w_sR, w_sL, w_sC, w_sk, w_sbr, w_sco, w_rV, w_rI, w_rR, w_rL, w_dI, w_sO, w_sq, w_si, w_pI, w_pZ, w_pR, w_pU, w_qI, w_qB, w_qZ, w_qU, w_qR, w_kV, q_icst, q_lcst, q_xR, q_ldI, q_ldR, q_ldL, q_bn, q_un, q_dv, q_fI, q_fR, q_aI, q_aR, q_aN, q_tn, q_cmp, q_cmz, q_cnt, q_ctt, q_cand, q_cor, q_vn, q_vI, q_vR, q_vL, q_kI, q_kR, q_kL, q_ckI, envN, argE, List.flatMap_cons, List.flatMap_nil, Value.category, junk, oadd, osub, omul, oand, oor, oxor, odiv, orem, oshl, oshr, oushr, omax, omin]
              simp [rk_i, rk_b, rk_o, st1, kill, Value.category, rcv, nog, f2]
            · rw [b2_f (fun y => hc2 y.1)] at z
              simp at z
          obtain ⟨r, h2, x2, rfl, f2⟩ := Y
          exact ⟨-1, h, h2, X, hn, x2, inv_m i f2⟩
      · have X : F_X10_cheapest [.ref 0, .int (nI (W_f w)), .int (nI fr), .int (nI t), .int q, .int p, .int d] h = some (some (.int (-1)), h) := by
          rw [← fq_eq]
          unfold F_X10_cheapest
          refine f_mkE _ rfl (by simp [argE, Value.category]) ?_
          rw [w_sq, w_si, q_cor, q_cor]
          refine ev_T ?_ ⟨fun _ => ⟨fun _ => ⟨fun _ => ?_, fun z => by cases z⟩, fun z => by cases z⟩, (fun z => by cases z)⟩
          · simp only [f_mkF, w_sI, w_sR, w_sL, w_sC, w_sk, w_sbr, w_sco, w_rV, w_rI, w_rR, w_rL, w_dI, w_sO, w_sq, w_si, w_pI, w_pZ, w_pR, w_pU, w_qI, w_qB, w_qZ, w_qU, w_qR, w_kV, q_icst, q_lcst, q_xR, q_ldI, q_ldR, q_ldL, q_bn, q_un, q_dv, q_fI, q_fR, q_aI, q_aR, q_aN, q_tn, q_cmp, q_cmz, q_cnt, q_ctt, q_cand, q_cor, q_vn, q_vI, q_vR, q_vL, q_kI, q_kR, q_kL, q_ckI, envN, argE, List.flatMap_cons, List.flatMap_nil, Value.category, junk, oadd, osub, omul, oand, oor, oxor, odiv, orem, oshl, oshr, oushr, omax, omin]
            simp [rk_i, rk_b, rk_o, st1, kill, Value.category, rcv, nog, fq_of (e_x_isWithin _ _ _ _), b2_f hd]
          · simp only [f_mkF, w_sI, w_sR, w_sL, w_sC, w_sk, w_sbr, w_sco, w_rV, w_rI, w_rR, w_rL, w_dI, w_sO, w_sq, w_si, w_pI, w_pZ, w_pR, w_pU, w_qI, w_qB, w_qZ, w_qU, w_qR, w_kV, q_icst, q_lcst, q_xR, q_ldI, q_ldR, q_ldL, q_bn, q_un, q_dv, q_fI, q_fR, q_aI, q_aR, q_aN, q_tn, q_cmp, q_cmz, q_cnt, q_ctt, q_cand, q_cor, q_vn, q_vI, q_vR, q_vL, q_kI, q_kR, q_kL, q_ckI, envN, argE, List.flatMap_cons, List.flatMap_nil, Value.category, junk, oadd, osub, omul, oand, oor, oxor, odiv, orem, oshl, oshr, oushr, omax, omin]; simp [rk_i, rk_b, rk_o, st1, kill, Value.category, rcv, nog]
        have Y : fq F_X11_cheapest [.ref 166, .int (nI (W_f w)), .int (nI fr), .int (nI t), .int q, .int p, .int d] h fun r h' => r = some (.int (-1)) ∧ Fr SN h h' := by
          unfold F_X11_cheapest
          refine f_mkE [.ref 166, .int (nI (W_f w)), .int (nI fr), .int (nI t), .int q, .int p, .int d, junk, junk] rfl (by simp [argE, Value.category]) ?_
          rw [w_sq, w_si, q_cor, q_cnt, q_cnt, q_cmz]
          refine q_kIe [.ref 166, .int (nI (W_f w)), .int (nI fr), .int (nI t), .int q, .int p] (by simp only [f_mkF, w_sI, w_sR, w_sL, w_sC, w_sk, w_sbr, w_sco, w_rV, w_rI, w_rR, w_rL, w_dI, w_sO, w_sq, w_si, w_pI, w_pZ, w_pR, w_pU, w_qI, w_qB, w_qZ, w_qU, w_qR, w_kV, q_icst, q_lcst, q_xR, q_ldI, q_ldR, q_ldL, q_bn, q_un, q_dv, q_fI, q_fR, q_aI, q_aR, q_aN, q_tn, q_cmp, q_cmz, q_cnt, q_ctt, q_cand, q_cor, q_vn, q_vI, q_vR, q_vL, q_kI, q_kR, q_kL, q_ckI, envN, argE, List.flatMap_cons, List.flatMap_nil, Value.category, junk, oadd, osub, omul, oand, oor, oxor, odiv, orem, oshl, oshr, oushr, omax, omin]; simp) (by simp [rcv, hn, ly166]) ?_
          refine fq_mono (m_can1 m e72 hcb) ?_
          rintro r h2 ⟨rfl, f2⟩
          refine ⟨_, rfl, fun _ => ⟨fun _ => ?_, fun z => by cases z⟩, fun z => ?_⟩
          · simp only [f_mkF, w_sI, w_sR, w_sL, w_sC, w_sk, w_sbr, w_sco, w_rV, w_rI, w_rR, w_rL, w_dI, w_sO, w_sq, w_si, w_pI, w_pZ, w_pR, w_pU, w_qI, w_qB, w_qZ, w_qU, w_qR, w_kV, q_icst, q_lcst, q_xR, q_ldI, q_ldR, q_ldL, q_bn, q_un, q_dv, q_fI, q_fR, q_aI, q_aR, q_aN, q_tn, q_cmp, q_cmz, q_cnt, q_ctt, q_cand, q_cor, q_vn, q_vI, q_vR, q_vL, q_kI, q_kR, q_kL, q_ckI, envN, argE, List.flatMap_cons, List.flatMap_nil, Value.category, junk, oadd, osub, omul, oand, oor, oxor, odiv, orem, oshl, oshr, oushr, omax, omin]
            simp [rk_i, rk_b, rk_o, st1, kill, Value.category, rcv, nog, f2]
          · refine ev_T ?_ ⟨fun _ => ?_, (fun z => by cases z)⟩
            · simp only [f_mkF, w_sI, w_sR, w_sL, w_sC, w_sk, w_sbr, w_sco, w_rV, w_rI, w_rR, w_rL, w_dI, w_sO, w_sq, w_si, w_pI, w_pZ, w_pR, w_pU, w_qI, w_qB, w_qZ, w_qU, w_qR, w_kV, q_icst, q_lcst, q_xR, q_ldI, q_ldR, q_ldL, q_bn, q_un, q_dv, q_fI, q_fR, q_aI, q_aR, q_aN, q_tn, q_cmp, q_cmz, q_cnt, q_ctt, q_cand, q_cor, q_vn, q_vI, q_vR, q_vL, q_kI, q_kR, q_kL, q_ckI, envN, argE, List.flatMap_cons, List.flatMap_nil, Value.category, junk, oadd, osub, omul, oand, oor, oxor, odiv, orem, oshl, oshr, oushr, omax, omin]
              simp [rk_i, rk_b, rk_o, st1, kill, Value.category, rcv, nog, fq_of (e_m_in _ _ _ _), b2_f hd]
            · simp only [f_mkF, w_sI, w_sR, w_sL, w_sC, w_sk, w_sbr, w_sco, w_rV, w_rI, w_rR, w_rL, w_dI, w_sO, w_sq, w_si, w_pI, w_pZ, w_pR, w_pU, w_qI, w_qB, w_qZ, w_qU, w_qR, w_kV, q_icst, q_lcst, q_xR, q_ldI, q_ldR, q_ldL, q_bn, q_un, q_dv, q_fI, q_fR, q_aI, q_aR, q_aN, q_tn, q_cmp, q_cmz, q_cnt, q_ctt, q_cand, q_cor, q_vn, q_vI, q_vR, q_vL, q_kI, q_kR, q_kL, q_ckI, envN, argE, List.flatMap_cons, List.flatMap_nil, Value.category, junk, oadd, osub, omul, oand, oor, oxor, odiv, orem, oshl, oshr, oushr, omax, omin]
              simp [rk_i, rk_b, rk_o, st1, kill, Value.category, rcv, nog, f2]
        obtain ⟨r, h2, x2, rfl, f2⟩ := Y
        exact ⟨-1, h, h2, X, hn, x2, inv_m i f2⟩
    · refine ⟨-1, h, h, ?_, hn, ?_, INV_up i⟩
      · rw [← fq_eq]
        unfold F_X10_cheapest
        refine f_mkE _ rfl (by simp [argE, Value.category]) ?_
        rw [w_sq, w_si, q_cor]
        refine ev_T ?_ ⟨fun _ => ⟨fun _ => ?_, fun z => by cases z⟩, (fun z => by cases z)⟩
        · by_cases hd : 0 ≤ d ∧ d ≤ 1
          · simp only [f_mkF, w_sI, w_sR, w_sL, w_sC, w_sk, w_sbr, w_sco, w_rV, w_rI, w_rR, w_rL, w_dI, w_sO, w_sq, w_si, w_pI, w_pZ, w_pR, w_pU, w_qI, w_qB, w_qZ, w_qU, w_qR, w_kV, q_icst, q_lcst, q_xR, q_ldI, q_ldR, q_ldL, q_bn, q_un, q_dv, q_fI, q_fR, q_aI, q_aR, q_aN, q_tn, q_cmp, q_cmz, q_cnt, q_ctt, q_cand, q_cor, q_vn, q_vI, q_vR, q_vL, q_kI, q_kR, q_kL, q_ckI, envN, argE, List.flatMap_cons, List.flatMap_nil, Value.category, junk, oadd, osub, omul, oand, oor, oxor, odiv, orem, oshl, oshr, oushr, omax, omin]
            simp [rk_i, rk_b, rk_o, st1, kill, Value.category, rcv, nog, hn, ly0, fq_of (e_x_isWithin _ _ _ _), fq_of (x_can0 i hcb), b2_t hd]
          · simp only [f_mkF, w_sI, w_sR, w_sL, w_sC, w_sk, w_sbr, w_sco, w_rV, w_rI, w_rR, w_rL, w_dI, w_sO, w_sq, w_si, w_pI, w_pZ, w_pR, w_pU, w_qI, w_qB, w_qZ, w_qU, w_qR, w_kV, q_icst, q_lcst, q_xR, q_ldI, q_ldR, q_ldL, q_bn, q_un, q_dv, q_fI, q_fR, q_aI, q_aR, q_aN, q_tn, q_cmp, q_cmz, q_cnt, q_ctt, q_cand, q_cor, q_vn, q_vI, q_vR, q_vL, q_kI, q_kR, q_kL, q_ckI, envN, argE, List.flatMap_cons, List.flatMap_nil, Value.category, junk, oadd, osub, omul, oand, oor, oxor, odiv, orem, oshl, oshr, oushr, omax, omin]
            simp [rk_i, rk_b, rk_o, st1, kill, Value.category, rcv, nog, hn, ly0, fq_of (e_x_isWithin _ _ _ _), b2_f hd]
        · simp only [f_mkF, w_sI, w_sR, w_sL, w_sC, w_sk, w_sbr, w_sco, w_rV, w_rI, w_rR, w_rL, w_dI, w_sO, w_sq, w_si, w_pI, w_pZ, w_pR, w_pU, w_qI, w_qB, w_qZ, w_qU, w_qR, w_kV, q_icst, q_lcst, q_xR, q_ldI, q_ldR, q_ldL, q_bn, q_un, q_dv, q_fI, q_fR, q_aI, q_aR, q_aN, q_tn, q_cmp, q_cmz, q_cnt, q_ctt, q_cand, q_cor, q_vn, q_vI, q_vR, q_vL, q_kI, q_kR, q_kL, q_ckI, envN, argE, List.flatMap_cons, List.flatMap_nil, Value.category, junk, oadd, osub, omul, oand, oor, oxor, odiv, orem, oshl, oshr, oushr, omax, omin]; simp [rk_i, rk_b, rk_o, st1, kill, Value.category, rcv, nog]
      · rw [← fq_eq]
        unfold F_X11_cheapest
        refine f_mkE _ rfl (by simp [argE, Value.category]) ?_
        rw [w_sq, w_si]
        refine ev_T ?_ ⟨fun _ => ?_, (fun z => by cases z)⟩
        · simp only [f_mkF, w_sI, w_sR, w_sL, w_sC, w_sk, w_sbr, w_sco, w_rV, w_rI, w_rR, w_rL, w_dI, w_sO, w_sq, w_si, w_pI, w_pZ, w_pR, w_pU, w_qI, w_qB, w_qZ, w_qU, w_qR, w_kV, q_icst, q_lcst, q_xR, q_ldI, q_ldR, q_ldL, q_bn, q_un, q_dv, q_fI, q_fR, q_aI, q_aR, q_aN, q_tn, q_cmp, q_cmz, q_cnt, q_ctt, q_cand, q_cor, q_vn, q_vI, q_vR, q_vL, q_kI, q_kR, q_kL, q_ckI, envN, argE, List.flatMap_cons, List.flatMap_nil, Value.category, junk, oadd, osub, omul, oand, oor, oxor, odiv, orem, oshl, oshr, oushr, omax, omin]
          simp [rk_i, rk_b, rk_o, st1, kill, Value.category, rcv, nog, hn, ly166, fq_of (m_can0 hn hcb)]
        · simp only [f_mkF, w_sI, w_sR, w_sL, w_sC, w_sk, w_sbr, w_sco, w_rV, w_rI, w_rR, w_rL, w_dI, w_sO, w_sq, w_si, w_pI, w_pZ, w_pR, w_pU, w_qI, w_qB, w_qZ, w_qU, w_qR, w_kV, q_icst, q_lcst, q_xR, q_ldI, q_ldR, q_ldL, q_bn, q_un, q_dv, q_fI, q_fR, q_aI, q_aR, q_aN, q_tn, q_cmp, q_cmz, q_cnt, q_ctt, q_cand, q_cor, q_vn, q_vI, q_vR, q_vL, q_kI, q_kR, q_kL, q_ckI, envN, argE, List.flatMap_cons, List.flatMap_nil, Value.category, junk, oadd, osub, omul, oand, oor, oxor, odiv, orem, oshl, oshr, oushr, omax, omin]; simp [rk_i, rk_b, rk_o, st1, kill, Value.category, rcv, nog]
