/-! the theft and the sale: the reference; who may be sold to -/
def SMk (t n a k : Nat) : Prop := SM a k ∨ a = 196 ∨ (173 ≤ a ∧ a < 181 ∧ (k = 22 * t + n ∨ k = 22 * t + n + 1))
theorem m_makes {w : Wd} {t : Nat} {h : Hp} (m : MX w t h) (e72 : h.2.1 172 t = nI (W_n w)) {sp : Nat} (hs1 : h.2.1 166 41 = nI sp) (hs2 : sp < 64) {q p fr land : Int32} (hw : WV (stg w q p fr land)) : fq F_X11_makes [.ref 166, .int (nI (W_f w)), .int (nI t), .int fr, .int q, .int p, .int land] h fun r h' => r = some (.int (b2 (whz (stg w q p fr land) sp = p))) ∧ Fr (SMk t (W_n w)) h h' := by
  have hn := m.1.1
  have hm := m.1.2.2
  have ht := m.2.1
  have n20 : W_n w + 2 ≤ 20 := hw.1
  have n1 : 22 * t + W_n w < 88 := by omega
  have n2 : 22 * t + W_n w + 1 < 88 := by omega
  obtain ⟨w4, w5, w6⟩ := m.2.2.2.1
  unfold F_X11_makes
  refine f_mkE [.ref 166, .int (nI (W_f w)), .int (nI t), .int fr, .int q, .int p, .int land, junk] rfl (by simp [argE, Value.category]) ?_
  (refine w_fz fun B hB C hC => ?_); (simp only [f_mkF, w_sI, w_sR, w_sL, w_sC, w_sk, w_sbr, w_sco, w_rV, w_rI, w_rR, w_rL, w_dI, w_sO, w_sq, w_si, w_pI, w_pZ, w_pR, w_pU, w_qI, w_qB, w_qZ, w_qU, w_qR, w_kV, q_icst, q_lcst, q_xR, q_ldI, q_ldR, q_ldL, q_bn, q_un, q_dv, q_fI, q_fR, q_aI, q_aR, q_aN, q_tn, q_cmp, q_cmz, q_cnt, q_ctt, q_cand, q_cor, q_vn, q_vI, q_vR, q_vL, q_kI, q_kR, q_kL, q_ckI, envN, argE, List.flatMap_cons, List.flatMap_nil, Value.category, junk, oadd, osub, omul, oand, oor, oxor, odiv, orem, oshl, oshr, oushr, omax, omin]); (simp (disch := first | omega | simp) [rk_i, rk_b, rk_o, st1, kill, Value.category, rcv, nog, inI_b, nI_clamp, nI_ltI, nI_leI, nI_eq, nI_9, nI_6, nI_22, nI_12, nI_180, nI_add, nI_1, hn, ly166, ly172, hm 8, mp, ht, e72]); (subst hB hC)
  refine w_fz fun B hB C hC => ?_
  simp only [f_mkF, w_sI, w_sR, w_sL, w_sC, w_sk, w_sbr, w_sco, w_rV, w_rI, w_rR, w_rL, w_dI, w_sO, w_sq, w_si, w_pI, w_pZ, w_pR, w_pU, w_qI, w_qB, w_qZ, w_qU, w_qR, w_kV, q_icst, q_lcst, q_xR, q_ldI, q_ldR, q_ldL, q_bn, q_un, q_dv, q_fI, q_fR, q_aI, q_aR, q_aN, q_tn, q_cmp, q_cmz, q_cnt, q_ctt, q_cand, q_cor, q_vn, q_vI, q_vR, q_vL, q_kI, q_kR, q_kL, q_ckI, envN, argE, List.flatMap_cons, List.flatMap_nil, Value.category, junk, oadd, osub, omul, oand, oor, oxor, odiv, orem, oshl, oshr, oushr, omax, omin]
  simp (disch := first | omega | simp) [rk_i, rk_b, rk_o, st1, kill, Value.category, rcv, nog, inI_b, nI_clamp, nI_ltI, nI_leI, nI_eq, nI_9, nI_6, nI_22, nI_12, nI_180, nI_add, nI_1, hn, ly166, m.2.2.2.2.1]
  refine fq_mono (e_m_puts m.1 n1 5 q fr (W_no w) 0 0 0 0) ?_
  rintro r h1 ⟨rfl, f1, f2, f3, f4⟩
  simp
  subst hB hC
  have fr1 : Fr (SMk t (W_n w)) h h1 := ⟨f1, f2, fun a k z => f4 a k (by unfold SMk at z; omega)⟩
  have ip1 := fr1.ip m.1
  have hn1 := ip1.1
  have hm1 := ip1.2.2
  have no1 : h1.2.1 166 0 = W_no w := (f4 166 0 (by omega)).trans m.2.2.2.2.1
  have wo1 : h1.2.1 169 t = W_wo w := (f4 169 t (by omega)).trans w4
  refine w_fz fun B hB C hC => ?_
  simp only [f_mkF, w_sI, w_sR, w_sL, w_sC, w_sk, w_sbr, w_sco, w_rV, w_rI, w_rR, w_rL, w_dI, w_sO, w_sq, w_si, w_pI, w_pZ, w_pR, w_pU, w_qI, w_qB, w_qZ, w_qU, w_qR, w_kV, q_icst, q_lcst, q_xR, q_ldI, q_ldR, q_ldL, q_bn, q_un, q_dv, q_fI, q_fR, q_aI, q_aR, q_aN, q_tn, q_cmp, q_cmz, q_cnt, q_ctt, q_cand, q_cor, q_vn, q_vI, q_vR, q_vL, q_kI, q_kR, q_kL, q_ckI, envN, argE, List.flatMap_cons, List.flatMap_nil, Value.category, junk, oadd, osub, omul, oand, oor, oxor, odiv, orem, oshl, oshr, oushr, omax, omin]
  simp (disch := first | omega | simp) [rk_i, rk_b, rk_o, st1, kill, Value.category, rcv, nog, inI_b, nI_clamp, nI_ltI, nI_leI, nI_eq, nI_9, nI_6, nI_22, nI_12, nI_180, nI_add, nI_1, hn1, ly166, ly169, hm1 5, mp, ht, no1, wo1]
  refine fq_mono (e_m_puts ip1 n2 0 p land (W_no w) (W_wo w) 3 0 0) ?_
  rintro r h2 ⟨rfl, g1, g2, g3, g4⟩
  simp
  subst hB hC
  have fr2 : Fr (SMk t (W_n w)) h h2 := fr1.trans ⟨g1, g2, fun a k z => g4 a k (by unfold SMk at z; omega)⟩
  have ip2 := fr2.ip m.1
  have m2 : MX (stg w q p fr land) t h2 := by
    obtain ⟨q1, q2, q3, q4, q7, q8, q9, q10, q11⟩ := m
    refine ⟨ip2, q2, fun i k hi hk => ?_, ⟨(fr2.2.2 169 t (by unfold SMk SM; omega)).trans w4, (fr2.2.2 170 t (by unfold SMk SM; omega)).trans w5, (fr2.2.2 171 t (by unfold SMk SM; omega)).trans w6⟩, (fr2.2.2 166 0 (by unfold SMk SM; omega)).trans q7, fun k => (fr2.2.2 167 k (by unfold SMk SM; omega)).trans (q8 k), fun l k hl hk => (fr2.2.2 181 _ (by unfold SMk SM; omega)).trans (q9 l k hl hk), fun l hl => LM_e (fun a k h1 h2 => fr2.2.2 a k (by unfold SMk SM; omega)) (q10 l hl), hw⟩
    have hi' : i < W_n w + 2 := hi
    rw [stg_R]
    unfold stR mrow
    by_cases c1 : i < W_n w
    · rw [if_pos c1, fr2.2.2 _ _ (by unfold SMk SM; omega)]
      exact q3 i k c1 hk
    · rw [if_neg c1]
      by_cases c2 : i = W_n w
      · rw [if_pos c2, c2, g4 _ _ (by omega)]
        exact f3 k hk
      · rw [if_neg c2, show 22 * t + i = 22 * t + W_n w + 1 by omega]
        exact g3 k hk
  have hn2 := ip2.1
  have hm2 := ip2.2.2
  have e72' : h2.2.1 172 t = nI (W_n w) := (fr2.2.2 172 t (by unfold SMk SM; omega)).trans e72
  refine w_fz fun B hB C hC => ?_
  simp only [f_mkF, w_sI, w_sR, w_sL, w_sC, w_sk, w_sbr, w_sco, w_rV, w_rI, w_rR, w_rL, w_dI, w_sO, w_sq, w_si, w_pI, w_pZ, w_pR, w_pU, w_qI, w_qB, w_qZ, w_qU, w_qR, w_kV, q_icst, q_lcst, q_xR, q_ldI, q_ldR, q_ldL, q_bn, q_un, q_dv, q_fI, q_fR, q_aI, q_aR, q_aN, q_tn, q_cmp, q_cmz, q_cnt, q_ctt, q_cand, q_cor, q_vn, q_vI, q_vR, q_vL, q_kI, q_kR, q_kL, q_ckI, envN, argE, List.flatMap_cons, List.flatMap_nil, Value.category, junk, oadd, osub, omul, oand, oor, oxor, odiv, orem, oshl, oshr, oushr, omax, omin]
  simp (disch := first | omega | simp) [rk_i, rk_b, rk_o, st1, kill, Value.category, rcv, nog, inI_b, nI_clamp, nI_ltI, nI_leI, nI_eq, nI_9, nI_6, nI_22, nI_12, nI_180, nI_add, nI_1, hn2, ly166]
  refine fq_mono (m_least m2 e72' (by rw [stg_n]; omega)) ?_
  rintro r h3 ⟨rfl, k1, k2⟩
  simp
  subst hB hC
  have fr3 : Fr (SMk t (W_n w)) h h3 := fr2.trans (k1.sub fun a k z => by unfold SMk; omega)
  have ip3 := fr3.ip m.1
  have hn3 := ip3.1
  have hm3 := ip3.2.2
  refine w_sqS (fun E1 h4 => E1 = [.ref 166, .int (nI (W_f w)), .int (nI t), .int fr, .int q, .int p, .int land, .int (nI (W_n w))] ∧ h4 = wI h3 196 (W_n w) 0) (w_qIe 196 (W_n w) 0 ?_ ?_ ?_ (by omega) rfl (by omega) (by omega) ⟨rfl, rfl, rfl⟩) ?_
  · simp only [f_mkF, w_sI, w_sR, w_sL, w_sC, w_sk, w_sbr, w_sco, w_rV, w_rI, w_rR, w_rL, w_dI, w_sO, w_sq, w_si, w_pI, w_pZ, w_pR, w_pU, w_qI, w_qB, w_qZ, w_qU, w_qR, w_kV, q_icst, q_lcst, q_xR, q_ldI, q_ldR, q_ldL, q_bn, q_un, q_dv, q_fI, q_fR, q_aI, q_aR, q_aN, q_tn, q_cmp, q_cmz, q_cnt, q_ctt, q_cand, q_cor, q_vn, q_vI, q_vR, q_vL, q_kI, q_kR, q_kL, q_ckI, envN, argE, List.flatMap_cons, List.flatMap_nil, Value.category, junk, oadd, osub, omul, oand, oor, oxor, odiv, orem, oshl, oshr, oushr, omax, omin]; simp [hn3, ly166, hm3 42, mp]
  · simp only [f_mkF, w_sI, w_sR, w_sL, w_sC, w_sk, w_sbr, w_sco, w_rV, w_rI, w_rR, w_rL, w_dI, w_sO, w_sq, w_si, w_pI, w_pZ, w_pR, w_pU, w_qI, w_qB, w_qZ, w_qU, w_qR, w_kV, q_icst, q_lcst, q_xR, q_ldI, q_ldR, q_ldL, q_bn, q_un, q_dv, q_fI, q_fR, q_aI, q_aR, q_aN, q_tn, q_cmp, q_cmz, q_cnt, q_ctt, q_cand, q_cor, q_vn, q_vI, q_vR, q_vL, q_kI, q_kR, q_kL, q_ckI, envN, argE, List.flatMap_cons, List.flatMap_nil, Value.category, junk, oadd, osub, omul, oand, oor, oxor, odiv, orem, oshl, oshr, oushr, omax, omin]; simp
  · simp only [f_mkF, w_sI, w_sR, w_sL, w_sC, w_sk, w_sbr, w_sco, w_rV, w_rI, w_rR, w_rL, w_dI, w_sO, w_sq, w_si, w_pI, w_pZ, w_pR, w_pU, w_qI, w_qB, w_qZ, w_qU, w_qR, w_kV, q_icst, q_lcst, q_xR, q_ldI, q_ldR, q_ldL, q_bn, q_un, q_dv, q_fI, q_fR, q_aI, q_aR, q_aN, q_tn, q_cmp, q_cmz, q_cnt, q_ctt, q_cand, q_cor, q_vn, q_vI, q_vR, q_vL, q_kI, q_kR, q_kL, q_ckI, envN, argE, List.flatMap_cons, List.flatMap_nil, Value.category, junk, oadd, osub, omul, oand, oor, oxor, odiv, orem, oshl, oshr, oushr, omax, omin]; simp
  rintro E1 h4 ⟨rfl, rfl⟩
  refine w_sqS (fun E1 h4 => E1 = [.ref 166, .int (nI (W_f w)), .int (nI t), .int fr, .int q, .int p, .int land, .int (nI (W_n w))] ∧ h4 = wI (wI h3 196 (W_n w) 0) 196 (W_n w + 1) 0) (w_qIe 196 (W_n w + 1) 0 ?_ ?_ ?_ (by rw [wI_1]; omega) rfl (by omega) (by omega) ⟨rfl, rfl, rfl⟩) ?_
  · simp only [f_mkF, w_sI, w_sR, w_sL, w_sC, w_sk, w_sbr, w_sco, w_rV, w_rI, w_rR, w_rL, w_dI, w_sO, w_sq, w_si, w_pI, w_pZ, w_pR, w_pU, w_qI, w_qB, w_qZ, w_qU, w_qR, w_kV, q_icst, q_lcst, q_xR, q_ldI, q_ldR, q_ldL, q_bn, q_un, q_dv, q_fI, q_fR, q_aI, q_aR, q_aN, q_tn, q_cmp, q_cmz, q_cnt, q_ctt, q_cand, q_cor, q_vn, q_vI, q_vR, q_vL, q_kI, q_kR, q_kL, q_ckI, envN, argE, List.flatMap_cons, List.flatMap_nil, Value.category, junk, oadd, osub, omul, oand, oor, oxor, odiv, orem, oshl, oshr, oushr, omax, omin]; simp [hn3, ly166, hm3 42, mp, wI_1, wI_r]
  · simp only [f_mkF, w_sI, w_sR, w_sL, w_sC, w_sk, w_sbr, w_sco, w_rV, w_rI, w_rR, w_rL, w_dI, w_sO, w_sq, w_si, w_pI, w_pZ, w_pR, w_pU, w_qI, w_qB, w_qZ, w_qU, w_qR, w_kV, q_icst, q_lcst, q_xR, q_ldI, q_ldR, q_ldL, q_bn, q_un, q_dv, q_fI, q_fR, q_aI, q_aR, q_aN, q_tn, q_cmp, q_cmz, q_cnt, q_ctt, q_cand, q_cor, q_vn, q_vI, q_vR, q_vL, q_kI, q_kR, q_kL, q_ckI, envN, argE, List.flatMap_cons, List.flatMap_nil, Value.category, junk, oadd, osub, omul, oand, oor, oxor, odiv, orem, oshl, oshr, oushr, omax, omin]; simp [nI_1]
  · simp only [f_mkF, w_sI, w_sR, w_sL, w_sC, w_sk, w_sbr, w_sco, w_rV, w_rI, w_rR, w_rL, w_dI, w_sO, w_sq, w_si, w_pI, w_pZ, w_pR, w_pU, w_qI, w_qB, w_qZ, w_qU, w_qR, w_kV, q_icst, q_lcst, q_xR, q_ldI, q_ldR, q_ldL, q_bn, q_un, q_dv, q_fI, q_fR, q_aI, q_aR, q_aN, q_tn, q_cmp, q_cmz, q_cnt, q_ctt, q_cand, q_cor, q_vn, q_vI, q_vR, q_vL, q_kI, q_kR, q_kL, q_ckI, envN, argE, List.flatMap_cons, List.flatMap_nil, Value.category, junk, oadd, osub, omul, oand, oor, oxor, odiv, orem, oshl, oshr, oushr, omax, omin]; simp
  rintro E1 h4 ⟨rfl, hh4⟩
  have fr4 : Fr (fun a _ => a = 196) h3 h4 := by rw [hh4]; refine Fr.w (Fr.w (Fr.refl h3) ?_) ?_ <;> rfl
  have fr5 : Fr (SMk t (W_n w)) h h4 := fr3.trans (fr4.sub fun a k z => Or.inr (Or.inl z))
  have m4 : MX (stg w q p fr land) t h4 := (m2.frn (k1.sub fun a k z => Or.inr (Or.inl z.1))).frn (fr4.sub fun a k z => Or.inr (Or.inl z))
  have hmd : ∀ i, i < W_n (stg w q p fr land) → h4.2.1 196 i = lows (stg w q p fr land) i := by
    intro i hi
    have hi' : i < W_n w + 2 := hi
    show _ = stR (W_R w) (W_n w) q p fr land (W_no w) (W_wo w) i 6
    rw [hh4, wI_i, wI_i]
    by_cases c1 : i < W_n w
    · rw [if_neg (by omega), if_neg (by omega)]
      exact k2 i c1
    · unfold stR
      rw [if_neg c1]
      by_cases c2 : i = W_n w
      · rw [if_neg (by omega), if_pos ⟨rfl, c2⟩, if_pos c2]; rfl
      · rw [if_pos ⟨rfl, by omega⟩, if_neg c2]; rfl
  have e41 : h4.2.1 166 41 = nI sp := (fr5.2.2 166 41 (by unfold SMk SM; omega)).trans hs1
  have hn4 := m4.1.1
  have k2' : nI (W_n w) + 2 = nI (W_n w + 2) := nI_add _ 2
  refine w_fz fun B hB C hC => ?_
  simp only [f_mkF, w_sI, w_sR, w_sL, w_sC, w_sk, w_sbr, w_sco, w_rV, w_rI, w_rR, w_rL, w_dI, w_sO, w_sq, w_si, w_pI, w_pZ, w_pR, w_pU, w_qI, w_qB, w_qZ, w_qU, w_qR, w_kV, q_icst, q_lcst, q_xR, q_ldI, q_ldR, q_ldL, q_bn, q_un, q_dv, q_fI, q_fR, q_aI, q_aR, q_aN, q_tn, q_cmp, q_cmz, q_cnt, q_ctt, q_cand, q_cor, q_vn, q_vI, q_vR, q_vL, q_kI, q_kR, q_kL, q_ckI, envN, argE, List.flatMap_cons, List.flatMap_nil, Value.category, junk, oadd, osub, omul, oand, oor, oxor, odiv, orem, oshl, oshr, oushr, omax, omin]
  simp (disch := first | omega | simp) [rk_i, rk_b, rk_o, st1, kill, Value.category, rcv, nog, inI_b, nI_clamp, nI_ltI, nI_leI, nI_eq, nI_9, nI_6, nI_22, nI_12, nI_180, nI_add, nI_1, hn4, ly166, k2']
  refine fq_mono (m_works m4 e41 hs2 hmd) ?_
  rintro r h5 ⟨rfl, f5, hR, e51⟩
  simp
  subst hB hC
  have hn5 : h5.1 = 212 := f5.1.trans hn4
  have fr6 : Fr (SMk t (W_n w)) h h5 := fr5.trans (f5.sub fun a k z => Or.inl z)
  have e51' : h5.2.1 166 51 = whz (stg w q p fr land) sp := e51
  simp only [f_mkF, w_sI, w_sR, w_sL, w_sC, w_sk, w_sbr, w_sco, w_rV, w_rI, w_rR, w_rL, w_dI, w_sO, w_sq, w_si, w_pI, w_pZ, w_pR, w_pU, w_qI, w_qB, w_qZ, w_qU, w_qR, w_kV, q_icst, q_lcst, q_xR, q_ldI, q_ldR, q_ldL, q_bn, q_un, q_dv, q_fI, q_fR, q_aI, q_aR, q_aN, q_tn, q_cmp, q_cmz, q_cnt, q_ctt, q_cand, q_cor, q_vn, q_vI, q_vR, q_vL, q_kI, q_kR, q_kL, q_ckI, envN, argE, List.flatMap_cons, List.flatMap_nil, Value.category, junk, oadd, osub, omul, oand, oor, oxor, odiv, orem, oshl, oshr, oushr, omax, omin]
  by_cases c : whz (stg w q p fr land) sp = p
  · simp [rk_i, rk_b, rk_o, st1, kill, Value.category, rcv, nog, hn5, ly166, e51', c, b2, fr6]
  · simp [rk_i, rk_b, rk_o, st1, kill, Value.category, rcv, nog, hn5, ly166, e51', c, b2, fr6]
theorem MX.mk {w : Wd} {t : Nat} {h h' : Hp} (m : MX w t h) (f : Fr (SMk t (W_n w)) h h') : MX w t h' := by
  obtain ⟨q1, q2, q3, ⟨q4, q5, q6⟩, q7, q8, q9, q10, q11⟩ := m
  have n20 := q11.1
  refine ⟨f.ip q1, q2, fun i k hi hk => ?_, ⟨(f.2.2 169 t (by unfold SMk SM; omega)).trans q4, (f.2.2 170 t (by unfold SMk SM; omega)).trans q5, (f.2.2 171 t (by unfold SMk SM; omega)).trans q6⟩, (f.2.2 166 0 (by unfold SMk SM; omega)).trans q7, fun k => (f.2.2 167 k (by unfold SMk SM; omega)).trans (q8 k), fun l k hl hk => (f.2.2 181 _ (by unfold SMk SM; omega)).trans (q9 l k hl hk), fun l hl => LM_e (fun a k h1 h2 => f.2.2 a k (by unfold SMk SM; omega)) (q10 l hl), q11⟩
  unfold mrow
  rw [f.2.2 _ _ (by unfold SMk SM; omega)]
  exact q3 i k hi hk
/-- persons, lands, the thing -/
def CB (h : Hp) (f fr t q p : Int32) : Prop := (0 ≤ f ∧ f ≤ 5) ∧ (0 ≤ fr ∧ fr ≤ 5) ∧ (0 ≤ t ∧ t < h.2.1 166 2) ∧ (0 ≤ q ∧ q < h.2.1 166 1) ∧ (0 ≤ p ∧ p < h.2.1 166 1)
theorem x_can0 {n : Nat} {h : Hp} (i : INV LWc n h) {f fr t q p : Int32} (hc : ¬ CB h f fr t q p) : F_X10_canBeSoldOn [.ref 0, .int f, .int fr, .int t, .int q, .int p] h = some (some (.int 0), h) := by
  have hn := i.1.1
  unfold CB at hc
  rw [← fq_eq]
  unfold F_X10_canBeSoldOn
  refine f_mkE _ rfl (by simp [argE, Value.category]) ?_
  refine w_sq.mpr ((w_siT ?_).mpr ?_)
  · simp only [f_mkF, w_sI, w_sR, w_sL, w_sC, w_sk, w_sbr, w_sco, w_rV, w_rI, w_rR, w_rL, w_dI, w_sO, w_sq, w_si, w_pI, w_pZ, w_pR, w_pU, w_qI, w_qB, w_qZ, w_qU, w_qR, w_kV, q_icst, q_lcst, q_xR, q_ldI, q_ldR, q_ldL, q_bn, q_un, q_dv, q_fI, q_fR, q_aI, q_aR, q_aN, q_tn, q_cmp, q_cmz, q_cnt, q_ctt, q_cand, q_cor, q_vn, q_vI, q_vR, q_vL, q_kI, q_kR, q_kL, q_ckI, envN, argE, List.flatMap_cons, List.flatMap_nil, Value.category, junk, oadd, osub, omul, oand, oor, oxor, odiv, orem, oshl, oshr, oushr, omax, omin]
    simp [rk_i, rk_b, rk_o, st1, kill, Value.category, rcv, nog, fq_of (e_x_isLand _ _), fq_of (i_x_isThing i _), fq_of (i_x_isPerson i _), b2_0, hn, ly0, zne, zeq]
    grind
  · simp only [f_mkF, w_sI, w_sR, w_sL, w_sC, w_sk, w_sbr, w_sco, w_rV, w_rI, w_rR, w_rL, w_dI, w_sO, w_sq, w_si, w_pI, w_pZ, w_pR, w_pU, w_qI, w_qB, w_qZ, w_qU, w_qR, w_kV, q_icst, q_lcst, q_xR, q_ldI, q_ldR, q_ldL, q_bn, q_un, q_dv, q_fI, q_fR, q_aI, q_aR, q_aN, q_tn, q_cmp, q_cmz, q_cnt, q_ctt, q_cand, q_cor, q_vn, q_vI, q_vR, q_vL, q_kI, q_kR, q_kL, q_ckI, envN, argE, List.flatMap_cons, List.flatMap_nil, Value.category, junk, oadd, osub, omul, oand, oor, oxor, odiv, orem, oshl, oshr, oushr, omax, omin]; simp [rk_i, rk_b, rk_o, st1, kill, Value.category, rcv, nog]
theorem x_can1 {n : Nat} {h : Hp} (i : INV LWc n h) {f fr q p : Int32} {t : Nat} (hc : CB h f fr (nI t) q p) (ht : t < 4) {w : Wd} {ra : Nat → Nat} (y : CY w (28 + 22 * t) ra h) : F_X10_canBeSoldOn [.ref 0, .int f, .int fr, .int (nI t), .int q, .int p] h = some (some (.int (b2 (p ≠ q ∧ q ≠ frm (W_R w) (W_fo w) (W_n w) ∧ W_n w ≤ 18))), h) := by
  have hn := i.1.1
  have p2 : h.2.2 0 2 = some 3 := i.1.2.1.at 2 rfl
  obtain ⟨p1, p3, -⟩ := ptT i.1 ht
  have p4 : 28 + 22 * t < 212 := by omega
  have eh := e_x_holder y.2.1
  rw [y.2.2.1.2.1] at eh
  have a7 := y.2.1.2.1.1
  have n20 := y.2.1.2.1.2
  have k18 : (18 : Int32) = nI 18 := rfl
  obtain ⟨c1, c2, c3, c4, c5⟩ := hc
  rw [← fq_eq]
  unfold F_X10_canBeSoldOn
  refine f_mkE _ rfl (by simp [argE, Value.category]) ?_
  refine w_sq.mpr ((w_siF (by simp only [f_mkF, w_sI, w_sR, w_sL, w_sC, w_sk, w_sbr, w_sco, w_rV, w_rI, w_rR, w_rL, w_dI, w_sO, w_sq, w_si, w_pI, w_pZ, w_pR, w_pU, w_qI, w_qB, w_qZ, w_qU, w_qR, w_kV, q_icst, q_lcst, q_xR, q_ldI, q_ldR, q_ldL, q_bn, q_un, q_dv, q_fI, q_fR, q_aI, q_aR, q_aN, q_tn, q_cmp, q_cmz, q_cnt, q_ctt, q_cand, q_cor, q_vn, q_vI, q_vR, q_vL, q_kI, q_kR, q_kL, q_ckI, envN, argE, List.flatMap_cons, List.flatMap_nil, Value.category, junk, oadd, osub, omul, oand, oor, oxor, odiv, orem, oshl, oshr, oushr, omax, omin]; simp (disch := first | omega | simp) [rk_i, rk_b, rk_o, st1, kill, Value.category, rcv, nog, inI_b, nI_clamp, nI_ltI, nI_leI, nI_eq, nI_9, nI_6, nI_22, nI_12, nI_180, nI_add, nI_1, hn, ly0, fq_of (e_x_isLand _ _), fq_of (i_x_isThing i _), fq_of (i_x_isPerson i _), b2_0, zne, zeq, c1, c2, c3, c4, c5])).mpr (w_sk2.mpr ?_))
  simp only [f_mkF, w_sI, w_sR, w_sL, w_sC, w_sk, w_sbr, w_sco, w_rV, w_rI, w_rR, w_rL, w_dI, w_sO, w_sq, w_si, w_pI, w_pZ, w_pR, w_pU, w_qI, w_qB, w_qZ, w_qU, w_qR, w_kV, q_icst, q_lcst, q_xR, q_ldI, q_ldR, q_ldL, q_bn, q_un, q_dv, q_fI, q_fR, q_aI, q_aR, q_aN, q_tn, q_cmp, q_cmz, q_cnt, q_ctt, q_cand, q_cor, q_vn, q_vI, q_vR, q_vL, q_kI, q_kR, q_kL, q_ckI, envN, argE, List.flatMap_cons, List.flatMap_nil, Value.category, junk, oadd, osub, omul, oand, oor, oxor, odiv, orem, oshl, oshr, oushr, omax, omin]
  by_cases d1 : p = q
  · simp (disch := first | omega | simp) [rk_i, rk_b, rk_o, st1, kill, Value.category, rcv, nog, d1, b2]
  · by_cases d2 : q = frm (W_R w) (W_fo w) (W_n w)
    · have eh2 := eh
      rw [← d2] at eh2
      simp (disch := first | omega | simp) [rk_i, rk_b, rk_o, st1, kill, Value.category, rcv, nog, inI_b, nI_clamp, nI_ltI, nI_leI, nI_eq, nI_9, nI_6, nI_22, nI_12, nI_180, nI_add, nI_1, hn, ly0, ly3, p2, p1, p3, p4, ht, d1, ← d2, b2, fq_of eh2]
    · by_cases d3 : W_n w ≤ 18
      · have d4 : ¬ 18 < W_n w := by omega
        simp (disch := first | omega | simp) [rk_i, rk_b, rk_o, st1, kill, Value.category, rcv, nog, inI_b, nI_clamp, nI_ltI, nI_leI, nI_eq, nI_9, nI_6, nI_22, nI_12, nI_180, nI_add, nI_1, hn, ly0, ly3, p2, p1, p3, p4, ht, d1, d2, d3, d4, b2, fq_of eh, a7, k18]
      · have d4 : 18 < W_n w := by omega
        simp (disch := first | omega | simp) [rk_i, rk_b, rk_o, st1, kill, Value.category, rcv, nog, inI_b, nI_clamp, nI_ltI, nI_leI, nI_eq, nI_9, nI_6, nI_22, nI_12, nI_180, nI_add, nI_1, hn, ly0, ly3, p2, p1, p3, p4, ht, d1, d2, d3, d4, b2, fq_of eh, a7, k18]
theorem m_can0 {h : Hp} (hn : h.1 = 212) {f fr t q p : Int32} (hc : ¬ CB h f fr t q p) : F_X11_canSteal [.ref 166, .int f, .int fr, .int t, .int q, .int p] h = some (some (.int 0), h) := by
  unfold CB at hc
  have hcj := fun a b => fq_of (P := fun r h2 => ∃ x, r = some (.int x) ∧ x = x) (m_can hn a b)
  rw [← fq_eq]
  unfold F_X11_canSteal
  refine f_mkE [.ref 166, .int f, .int fr, .int t, .int q, .int p] rfl (by simp [argE, Value.category]) ?_
  rw [w_rI, q_tn]
  refine ev_F ?_ ⟨(fun z => by cases z), fun _ => ?_⟩
  · by_cases c1 : (0 ≤ f ∧ f ≤ 5) ∧ (0 ≤ t ∧ t < h.2.1 166 2)
    · by_cases c2 : 0 ≤ fr ∧ fr ≤ 5
      · by_cases c3 : 0 ≤ q ∧ q < h.2.1 166 1
        · have c4 : ¬ (0 ≤ p ∧ p < h.2.1 166 1) := fun z => hc ⟨c1.1, c2, c1.2, c3, z⟩
          simp only [f_mkF, w_sI, w_sR, w_sL, w_sC, w_sk, w_sbr, w_sco, w_rV, w_rI, w_rR, w_rL, w_dI, w_sO, w_sq, w_si, w_pI, w_pZ, w_pR, w_pU, w_qI, w_qB, w_qZ, w_qU, w_qR, w_kV, q_icst, q_lcst, q_xR, q_ldI, q_ldR, q_ldL, q_bn, q_un, q_dv, q_fI, q_fR, q_aI, q_aR, q_aN, q_tn, q_cmp, q_cmz, q_cnt, q_ctt, q_cand, q_cor, q_vn, q_vI, q_vR, q_vL, q_kI, q_kR, q_kL, q_ckI, envN, argE, List.flatMap_cons, List.flatMap_nil, Value.category, junk, oadd, osub, omul, oand, oor, oxor, odiv, orem, oshl, oshr, oushr, omax, omin]
          simp [rk_i, rk_b, rk_o, st1, kill, Value.category, rcv, nog, fq_of (m_can hn _ _), fq_of (e_m_isLand _ _), fq_of (e_m_isPerson _ _ hn), hn, ly166, b2_t c1, b2_t c2, b2_t c3, b2_f c4]
        · simp only [f_mkF, w_sI, w_sR, w_sL, w_sC, w_sk, w_sbr, w_sco, w_rV, w_rI, w_rR, w_rL, w_dI, w_sO, w_sq, w_si, w_pI, w_pZ, w_pR, w_pU, w_qI, w_qB, w_qZ, w_qU, w_qR, w_kV, q_icst, q_lcst, q_xR, q_ldI, q_ldR, q_ldL, q_bn, q_un, q_dv, q_fI, q_fR, q_aI, q_aR, q_aN, q_tn, q_cmp, q_cmz, q_cnt, q_ctt, q_cand, q_cor, q_vn, q_vI, q_vR, q_vL, q_kI, q_kR, q_kL, q_ckI, envN, argE, List.flatMap_cons, List.flatMap_nil, Value.category, junk, oadd, osub, omul, oand, oor, oxor, odiv, orem, oshl, oshr, oushr, omax, omin]
          simp [rk_i, rk_b, rk_o, st1, kill, Value.category, rcv, nog, fq_of (m_can hn _ _), fq_of (e_m_isLand _ _), fq_of (e_m_isPerson _ _ hn), hn, ly166, b2_t c1, b2_t c2, b2_f c3]
      · simp only [f_mkF, w_sI, w_sR, w_sL, w_sC, w_sk, w_sbr, w_sco, w_rV, w_rI, w_rR, w_rL, w_dI, w_sO, w_sq, w_si, w_pI, w_pZ, w_pR, w_pU, w_qI, w_qB, w_qZ, w_qU, w_qR, w_kV, q_icst, q_lcst, q_xR, q_ldI, q_ldR, q_ldL, q_bn, q_un, q_dv, q_fI, q_fR, q_aI, q_aR, q_aN, q_tn, q_cmp, q_cmz, q_cnt, q_ctt, q_cand, q_cor, q_vn, q_vI, q_vR, q_vL, q_kI, q_kR, q_kL, q_ckI, envN, argE, List.flatMap_cons, List.flatMap_nil, Value.category, junk, oadd, osub, omul, oand, oor, oxor, odiv, orem, oshl, oshr, oushr, omax, omin]
        simp [rk_i, rk_b, rk_o, st1, kill, Value.category, rcv, nog, fq_of (m_can hn _ _), fq_of (e_m_isLand _ _), hn, ly166, b2_t c1, b2_f c2]
    · simp only [f_mkF, w_sI, w_sR, w_sL, w_sC, w_sk, w_sbr, w_sco, w_rV, w_rI, w_rR, w_rL, w_dI, w_sO, w_sq, w_si, w_pI, w_pZ, w_pR, w_pU, w_qI, w_qB, w_qZ, w_qU, w_qR, w_kV, q_icst, q_lcst, q_xR, q_ldI, q_ldR, q_ldL, q_bn, q_un, q_dv, q_fI, q_fR, q_aI, q_aR, q_aN, q_tn, q_cmp, q_cmz, q_cnt, q_ctt, q_cand, q_cor, q_vn, q_vI, q_vR, q_vL, q_kI, q_kR, q_kL, q_ckI, envN, argE, List.flatMap_cons, List.flatMap_nil, Value.category, junk, oadd, osub, omul, oand, oor, oxor, odiv, orem, oshl, oshr, oushr, omax, omin]
      simp [rk_i, rk_b, rk_o, st1, kill, Value.category, rcv, nog, fq_of (m_can hn _ _), hn, ly166, b2_f c1]
  · simp only [f_mkF, w_sI, w_sR, w_sL, w_sC, w_sk, w_sbr, w_sco, w_rV, w_rI, w_rR, w_rL, w_dI, w_sO, w_sq, w_si, w_pI, w_pZ, w_pR, w_pU, w_qI, w_qB, w_qZ, w_qU, w_qR, w_kV, q_icst, q_lcst, q_xR, q_ldI, q_ldR, q_ldL, q_bn, q_un, q_dv, q_fI, q_fR, q_aI, q_aR, q_aN, q_tn, q_cmp, q_cmz, q_cnt, q_ctt, q_cand, q_cor, q_vn, q_vI, q_vR, q_vL, q_kI, q_kR, q_kL, q_ckI, envN, argE, List.flatMap_cons, List.flatMap_nil, Value.category, junk, oadd, osub, omul, oand, oor, oxor, odiv, orem, oshl, oshr, oushr, omax, omin]; simp [rk_i, rk_b, rk_o, st1, kill, Value.category, rcv, nog]
theorem m_can1 {w : Wd} {t : Nat} {h : Hp} (m : MX w t h) (e72 : h.2.1 172 t = nI (W_n w)) {fr q p : Int32} (hc : CB h (nI (W_f w)) fr (nI t) q p) : fq F_X11_canSteal [.ref 166, .int (nI (W_f w)), .int fr, .int (nI t), .int q, .int p] h fun r h' => r = some (.int (b2 ((p ≠ q ∧ q ≠ frm (W_R w) (W_fo w) (W_n w) ∧ W_n w ≤ 18) ∧ p ≠ whz w 0))) ∧ Fr SN h h' := by
  have hn := m.1.1
  have hm := m.1.2.2
  have ht := m.2.1
  have n20 := m.wv.1
  obtain ⟨c1, c2, c3, c4, c5⟩ := hc
  have c13 : (0 ≤ nI (W_f w) ∧ nI (W_f w) ≤ 5) ∧ (0 ≤ nI t ∧ nI t < h.2.1 166 2) := ⟨c1, c3⟩
  have eh := m_hold m e72
  have k18 : (18 : Int32) = nI 18 := rfl
  unfold F_X11_canSteal
  refine f_mkE [.ref 166, .int (nI (W_f w)), .int fr, .int (nI t), .int q, .int p] rfl (by simp [argE, Value.category]) ?_
  rw [w_rI, q_tn]
  by_cases d : p ≠ q ∧ q ≠ frm (W_R w) (W_fo w) (W_n w) ∧ W_n w ≤ 18
  · obtain ⟨d1, d2, d3⟩ := d
    have d4 : ¬ 18 < W_n w := by omega
    rw [q_cand]
    refine ev_T ?_ ⟨fun _ => ?_, (fun z => by cases z)⟩
    · simp only [f_mkF, w_sI, w_sR, w_sL, w_sC, w_sk, w_sbr, w_sco, w_rV, w_rI, w_rR, w_rL, w_dI, w_sO, w_sq, w_si, w_pI, w_pZ, w_pR, w_pU, w_qI, w_qB, w_qZ, w_qU, w_qR, w_kV, q_icst, q_lcst, q_xR, q_ldI, q_ldR, q_ldL, q_bn, q_un, q_dv, q_fI, q_fR, q_aI, q_aR, q_aN, q_tn, q_cmp, q_cmz, q_cnt, q_ctt, q_cand, q_cor, q_vn, q_vI, q_vR, q_vL, q_kI, q_kR, q_kL, q_ckI, envN, argE, List.flatMap_cons, List.flatMap_nil, Value.category, junk, oadd, osub, omul, oand, oor, oxor, odiv, orem, oshl, oshr, oushr, omax, omin]
      simp (disch := first | omega | simp) [rk_i, rk_b, rk_o, st1, kill, Value.category, rcv, nog, inI_b, nI_clamp, nI_ltI, nI_leI, nI_eq, nI_9, nI_6, nI_22, nI_12, nI_180, nI_add, nI_1, fq_of (m_can hn _ _), fq_of (e_m_isLand _ _), fq_of (e_m_isPerson _ _ hn), hn, ly166, ly172, hm 8, mp, ht, e72, fq_of eh, b2_t c13, b2_t c2, b2_t c4, b2_t c5, d1, d2, d3, d4, k18]
    rw [q_cnt, q_cmp, q_ldI]
    refine ⟨p, rfl, ?_⟩
    refine q_kIe [.ref 166, .int (nI (W_f w)), .int (nI t)] (by simp only [f_mkF, w_sI, w_sR, w_sL, w_sC, w_sk, w_sbr, w_sco, w_rV, w_rI, w_rR, w_rL, w_dI, w_sO, w_sq, w_si, w_pI, w_pZ, w_pR, w_pU, w_qI, w_qB, w_qZ, w_qU, w_qR, w_kV, q_icst, q_lcst, q_xR, q_ldI, q_ldR, q_ldL, q_bn, q_un, q_dv, q_fI, q_fR, q_aI, q_aR, q_aN, q_tn, q_cmp, q_cmz, q_cnt, q_ctt, q_cand, q_cor, q_vn, q_vI, q_vR, q_vL, q_kI, q_kR, q_kL, q_ckI, envN, argE, List.flatMap_cons, List.flatMap_nil, Value.category, junk, oadd, osub, omul, oand, oor, oxor, odiv, orem, oshl, oshr, oushr, omax, omin]; simp) (by simp [rcv, hn, ly166]) ?_
    refine fq_mono (m_whose m e72 c3.2) ?_
    rintro r h2 ⟨rfl, f2⟩
    refine ⟨_, rfl, ?_⟩
    by_cases e : p = whz w 0
    · refine ⟨fun z => ?_, fun _ => ?_⟩
      · simp [e] at z
      · simp only [f_mkF, w_sI, w_sR, w_sL, w_sC, w_sk, w_sbr, w_sco, w_rV, w_rI, w_rR, w_rL, w_dI, w_sO, w_sq, w_si, w_pI, w_pZ, w_pR, w_pU, w_qI, w_qB, w_qZ, w_qU, w_qR, w_kV, q_icst, q_lcst, q_xR, q_ldI, q_ldR, q_ldL, q_bn, q_un, q_dv, q_fI, q_fR, q_aI, q_aR, q_aN, q_tn, q_cmp, q_cmz, q_cnt, q_ctt, q_cand, q_cor, q_vn, q_vI, q_vR, q_vL, q_kI, q_kR, q_kL, q_ckI, envN, argE, List.flatMap_cons, List.flatMap_nil, Value.category, junk, oadd, osub, omul, oand, oor, oxor, odiv, orem, oshl, oshr, oushr, omax, omin]
        simp [rk_i, rk_b, rk_o, st1, kill, Value.category, rcv, nog, e, b2, f2]
    · refine ⟨fun _ => ?_, fun z => ?_⟩
      · simp only [f_mkF, w_sI, w_sR, w_sL, w_sC, w_sk, w_sbr, w_sco, w_rV, w_rI, w_rR, w_rL, w_dI, w_sO, w_sq, w_si, w_pI, w_pZ, w_pR, w_pU, w_qI, w_qB, w_qZ, w_qU, w_qR, w_kV, q_icst, q_lcst, q_xR, q_ldI, q_ldR, q_ldL, q_bn, q_un, q_dv, q_fI, q_fR, q_aI, q_aR, q_aN, q_tn, q_cmp, q_cmz, q_cnt, q_ctt, q_cand, q_cor, q_vn, q_vI, q_vR, q_vL, q_kI, q_kR, q_kL, q_ckI, envN, argE, List.flatMap_cons, List.flatMap_nil, Value.category, junk, oadd, osub, omul, oand, oor, oxor, odiv, orem, oshl, oshr, oushr, omax, omin]
        simp [rk_i, rk_b, rk_o, st1, kill, Value.category, rcv, nog, e, b2, f2, d1, d2, d3]
      · simp [e] at z
  · refine ev_F ?_ ⟨(fun z => by cases z), fun _ => ?_⟩
    · by_cases d3 : W_n w ≤ 18
      · have d4 : ¬ 18 < W_n w := by omega
        by_cases d2 : q = frm (W_R w) (W_fo w) (W_n w)
        · have eh2 := eh
          rw [← d2] at eh2
          simp only [f_mkF, w_sI, w_sR, w_sL, w_sC, w_sk, w_sbr, w_sco, w_rV, w_rI, w_rR, w_rL, w_dI, w_sO, w_sq, w_si, w_pI, w_pZ, w_pR, w_pU, w_qI, w_qB, w_qZ, w_qU, w_qR, w_kV, q_icst, q_lcst, q_xR, q_ldI, q_ldR, q_ldL, q_bn, q_un, q_dv, q_fI, q_fR, q_aI, q_aR, q_aN, q_tn, q_cmp, q_cmz, q_cnt, q_ctt, q_cand, q_cor, q_vn, q_vI, q_vR, q_vL, q_kI, q_kR, q_kL, q_ckI, envN, argE, List.flatMap_cons, List.flatMap_nil, Value.category, junk, oadd, osub, omul, oand, oor, oxor, odiv, orem, oshl, oshr, oushr, omax, omin]
          simp (disch := first | omega | simp) [rk_i, rk_b, rk_o, st1, kill, Value.category, rcv, nog, inI_b, nI_clamp, nI_ltI, nI_leI, nI_eq, nI_9, nI_6, nI_22, nI_12, nI_180, nI_add, nI_1, fq_of (m_can hn _ _), fq_of (e_m_isLand _ _), fq_of (e_m_isPerson _ _ hn), hn, ly166, ly172, hm 8, mp, ht, e72, fq_of eh2, b2_t c13, b2_t c2, b2_t c4, b2_t c5, d4, k18]
        · have d1 : p = q := Classical.byContradiction fun z => d ⟨z, d2, d3⟩
          subst d1
          simp only [f_mkF, w_sI, w_sR, w_sL, w_sC, w_sk, w_sbr, w_sco, w_rV, w_rI, w_rR, w_rL, w_dI, w_sO, w_sq, w_si, w_pI, w_pZ, w_pR, w_pU, w_qI, w_qB, w_qZ, w_qU, w_qR, w_kV, q_icst, q_lcst, q_xR, q_ldI, q_ldR, q_ldL, q_bn, q_un, q_dv, q_fI, q_fR, q_aI, q_aR, q_aN, q_tn, q_cmp, q_cmz, q_cnt, q_ctt, q_cand, q_cor, q_vn, q_vI, q_vR, q_vL, q_kI, q_kR, q_kL, q_ckI, envN, argE, List.flatMap_cons, List.flatMap_nil, Value.category, junk, oadd, osub, omul, oand, oor, oxor, odiv, orem, oshl, oshr, oushr, omax, omin]
          simp (disch := first | omega | simp) [rk_i, rk_b, rk_o, st1, kill, Value.category, rcv, nog, inI_b, nI_clamp, nI_ltI, nI_leI, nI_eq, nI_9, nI_6, nI_22, nI_12, nI_180, nI_add, nI_1, fq_of (m_can hn _ _), fq_of (e_m_isLand _ _), fq_of (e_m_isPerson _ _ hn), hn, ly166, ly172, hm 8, mp, ht, e72, fq_of eh, b2_t c13, b2_t c2, b2_t c4, d2, d4, k18]
      · have d4 : 18 < W_n w := by omega
        simp only [f_mkF, w_sI, w_sR, w_sL, w_sC, w_sk, w_sbr, w_sco, w_rV, w_rI, w_rR, w_rL, w_dI, w_sO, w_sq, w_si, w_pI, w_pZ, w_pR, w_pU, w_qI, w_qB, w_qZ, w_qU, w_qR, w_kV, q_icst, q_lcst, q_xR, q_ldI, q_ldR, q_ldL, q_bn, q_un, q_dv, q_fI, q_fR, q_aI, q_aR, q_aN, q_tn, q_cmp, q_cmz, q_cnt, q_ctt, q_cand, q_cor, q_vn, q_vI, q_vR, q_vL, q_kI, q_kR, q_kL, q_ckI, envN, argE, List.flatMap_cons, List.flatMap_nil, Value.category, junk, oadd, osub, omul, oand, oor, oxor, odiv, orem, oshl, oshr, oushr, omax, omin]
        simp (disch := first | omega | simp) [rk_i, rk_b, rk_o, st1, kill, Value.category, rcv, nog, inI_b, nI_clamp, nI_ltI, nI_leI, nI_eq, nI_9, nI_6, nI_22, nI_12, nI_180, nI_add, nI_1, fq_of (m_can hn _ _), fq_of (e_m_isLand _ _), fq_of (e_m_isPerson _ _ hn), hn, ly166, ly172, hm 8, mp, ht, e72, fq_of eh, b2_t c13, b2_t c2, b2_t c4, b2_t c5, d3, d4, k18]
    · simp only [f_mkF, w_sI, w_sR, w_sL, w_sC, w_sk, w_sbr, w_sco, w_rV, w_rI, w_rR, w_rL, w_dI, w_sO, w_sq, w_si, w_pI, w_pZ, w_pR, w_pU, w_qI, w_qB, w_qZ, w_qU, w_qR, w_kV, q_icst, q_lcst, q_xR, q_ldI, q_ldR, q_ldL, q_bn, q_un, q_dv, q_fI, q_fR, q_aI, q_aR, q_aN, q_tn, q_cmp, q_cmz, q_cnt, q_ctt, q_cand, q_cor, q_vn, q_vI, q_vR, q_vL, q_kI, q_kR, q_kL, q_ckI, envN, argE, List.flatMap_cons, List.flatMap_nil, Value.category, junk, oadd, osub, omul, oand, oor, oxor, odiv, orem, oshl, oshr, oushr, omax, omin]
      rw [b2_f (fun z => d z.1)]
      simp [rk_i, rk_b, rk_o, st1, kill, Value.category, rcv, nog, Fr.refl]
