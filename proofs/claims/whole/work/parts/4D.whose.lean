/-! whose, title, when, rules -/
theorem land_num {a : Int32} (h : 0 ≤ a ∧ a ≤ 5) : ∃ f, f < 6 ∧ a = nI f := by
  have z1 := Int32.le_iff_toInt_le.mp h.1
  have z2 := Int32.le_iff_toInt_le.mp h.2
  have z3 : (5 : Int32).toInt = 5 := rfl
  have z4 : (0 : Int32).toInt = 0 := rfl
  have z5 := clampI (x := a) (by omega)
  exact ⟨a.toNatClampNeg, by omega, nI_toI (by omega)⟩
def wld (h : Hp) (f t m : Nat) (D : Nat → LDt) : Wd := (mrow h t, h.2.1 170 t, h.2.1 171 t, h.2.1 169 t, h.2.1 167, (fun l k => h.2.1 181 (9 * l + k)), h.2.1 166 0, m, f, D)
theorem wd_of {n : Nat} {h : Hp} (q : INV LWc n h) {f t : Nat} (hf : f < 6) (ht : t < 4) (htt : nI t < h.2.1 166 2) : ∃ w ra, CY w (28 + 22 * t) ra h ∧ MX w t h ∧ h.2.1 172 t = nI (W_n w) ∧ W_f w = f ∧ W_no w = h.2.1 166 0 ∧ W_R w = mrow h t ∧ (W_wo w = h.2.1 169 t ∧ W_fo w = h.2.1 170 t) ∧ (∀ i j, i < 20 → j < 20 → ra i = ra j → i = j) ∧ (∀ i, i < W_n w → rowV (h.2.1 166 1).toInt (h.2.1 166 0).toInt (mrow h t i)) ∧ ∃ D, w = wld h f t (W_n w) D ∧ ∀ l, l < 6 → WD (D l) ∧ (∃ la, h.2.2 4 l = some la ∧ lawA la ∧ LX h la (D l)) ∧ LM h l (D l) := by
  obtain ⟨ra, m, t1, t2, t3, t4, t5⟩ := th_of q ht
  obtain ⟨o3, o2, o4, o1⟩ := th_fo q ht
  obtain ⟨q0, q1, q2, q3, q4, q5, q6, q7, q8, ⟨⟨D, q9⟩, pp⟩, q10⟩ := q
  have z := (q6.2.2 t ht).2.2.2 (by
    rw [Int32.lt_iff_toInt_lt, nI_toInt (by omega)] at htt
    omega)
  have hnp := q2.2.1.2
  have hwv : WV (wld h f t m D) := by
    refine ⟨t1.2.1.2, hf, fun i hi => (t4 i hi).mono hnp (Int.le_refl _), t5, fun k => q2.2.2.2.2.1 k, ⟨z.2.1.1, by have := z.2.1.2; show (h.2.1 170 t).toInt < 12; omega⟩, z.2.2, ⟨q1.2.1, q1.2.2⟩, fun l k hl hk => (q3 l k hl hk).2, fun l hl => (q9 l hl).1⟩
  refine ⟨wld h f t m D, ra, ⟨q0, t1, ⟨o2, o3, o4⟩, q2.2.2.1, fun l k hl hk => (q3 l k hl hk).1, fun l hl => (q9 l hl).2.1, hwv⟩, ⟨q0, ht, fun i k hi hk => rfl, ⟨rfl, rfl, rfl⟩, rfl, fun k => rfl, fun l k hl hk => rfl, fun l hl => (q9 l hl).2.2, hwv⟩, t2, rfl, rfl, rfl, ⟨rfl, rfl⟩, t3, t4, D, rfl, q9⟩
theorem inv_ic {n : Nat} {h : Hp} (q : INV LWc n h) : IC (20 * n) h := by
  obtain ⟨q0, q1, q2, q3, q4, q5, q6, q7, q8, q9, ⟨q10, q11⟩⟩ := q
  exact ⟨⟨q10.1, by have := q10.2; omega⟩, q11⟩
theorem inv_j {n : Nat} {h h1 h2 : Hp} (q : INV LWc n h) (fj : Fj h h1) {S : Nat → Nat → Prop} (fr : Fr S h1 h2) (hS : ∀ a k, S a k → (194 ≤ a ∧ a ≤ 211) ∨ (a = 166 ∧ 41 ≤ k)) {c : Nat} (hc : c ≤ 20 * (n + 1)) (ic : IC c h1) : INV LWc (n + 1) h2 := by
  refine INV_q q (fr.1.trans fj.1) (fun a k z => ?_) (fun a k z => ?_) ?_ ?_
  · rw [fr.2.1]
    exact fj.2.1 a k fun y => z (Or.inl y)
  · rw [fr.2.2 a k fun y => z (by have := hS a k y; unfold SQ; omega)]
    exact fj.2.2 a k fun y => z (by unfold SJ SX at y; unfold SQ; omega)
  · have := q.2.2.2.2.2.2.2.2.2.1.2
    unfold Ipai at *
    rw [fr.2.1, fj.2.1 157 3 (by omega), fj.2.1 157 4 (by omega)]
    exact this
  · obtain ⟨⟨i1, i2⟩, i3⟩ := ic
    have e1 : h2.2.1 147 10 = h1.2.1 147 10 := fr.2.2 147 10 fun y => by have := hS _ _ y; omega
    refine ⟨by rw [e1]; omega, fun k => ?_⟩
    rw [e1, fr.2.2 155 k fun y => by have := hS _ _ y; omega]
    exact i3 k
theorem SN_ok : ∀ a k, SN a k → (194 ≤ a ∧ a ≤ 211) ∨ (a = 166 ∧ 41 ≤ k) := by
  intro a k z
  unfold SN SM at z
  omega
theorem m_can {h : Hp} (hn : h.1 = 212) (a b : Int32) : F_X11_canJudge [.ref 166, .int a, .int b] h = some (some (.int (b2 ((0 ≤ a ∧ a ≤ 5) ∧ (0 ≤ b ∧ b < h.2.1 166 2)))), h) := by
  rw [← fq_eq]
  unfold F_X11_canJudge
  simp only [f_mkF, w_sI, w_sR, w_sL, w_sC, w_sk, w_sbr, w_sco, w_rV, w_rI, w_rR, w_rL, w_dI, w_sO, w_sq, w_si, w_pI, w_pZ, w_pR, w_pU, w_qI, w_qB, w_qZ, w_qU, w_qR, w_kV, q_icst, q_lcst, q_xR, q_ldI, q_ldR, q_ldL, q_bn, q_un, q_dv, q_fI, q_fR, q_aI, q_aR, q_aN, q_tn, q_cmp, q_cmz, q_cnt, q_ctt, q_cand, q_cor, q_vn, q_vI, q_vR, q_vL, q_kI, q_kR, q_kL, q_ckI, envN, argE, List.flatMap_cons, List.flatMap_nil, Value.category, junk, oadd, osub, omul, oand, oor, oxor, odiv, orem, oshl, oshr, oushr, omax, omin]
  simp [rk_i, rk_b, rk_o, st1, kill, Value.category, rcv, nog, fq_of (e_m_isLand _ _), fq_of (e_m_isThing _ _ hn), hn, ly166, b2_0, b2]
  grind
theorem g_whose : AG (INV LWc) F_X10_whose F_X11_whose 2 := by
  intro n h vs hl hn5 q
  match vs, hl with
  | [a, b], _ =>
    have hn := q.1.1
    by_cases hc : (0 ≤ a ∧ a ≤ 5) ∧ (0 ≤ b ∧ b < h.2.1 166 2)
    · obtain ⟨f, hf, rfl⟩ := land_num hc.1
      obtain ⟨t, ht, rfl⟩ := th_num q hc.2.1 hc.2.2
      obtain ⟨w, ra, y, m, e72, rfl, hno, -⟩ := wd_of q hf ht hc.2.2
      have X : fq F_X10_whose [.ref 0, .int (nI (W_f w)), .int (nI t)] h fun r h' => r = some (.int (whz w 0)) ∧ Fj h h' ∧ IC (20 * n + 1) h' := by
        unfold F_X10_whose
        refine f_mkE _ rfl (by simp [argE, Value.category]) ?_
        refine w_sq.mpr ((w_siF (by simp only [f_mkF, w_sI, w_sR, w_sL, w_sC, w_sk, w_sbr, w_sco, w_rV, w_rI, w_rR, w_rL, w_dI, w_sO, w_sq, w_si, w_pI, w_pZ, w_pR, w_pU, w_qI, w_qB, w_qZ, w_qU, w_qR, w_kV, q_icst, q_lcst, q_xR, q_ldI, q_ldR, q_ldL, q_bn, q_un, q_dv, q_fI, q_fR, q_aI, q_aR, q_aN, q_tn, q_cmp, q_cmz, q_cnt, q_ctt, q_cand, q_cor, q_vn, q_vI, q_vR, q_vL, q_kI, q_kR, q_kL, q_ckI, envN, argE, List.flatMap_cons, List.flatMap_nil, Value.category, junk, oadd, osub, omul, oand, oor, oxor, odiv, orem, oshl, oshr, oushr, omax, omin]; simp (disch := first | omega | simp) [rk_i, rk_b, rk_o, st1, kill, Value.category, rcv, nog, inI_b, nI_clamp, nI_ltI, nI_leI, nI_eq, nI_9, nI_6, nI_22, nI_12, nI_180, nI_add, nI_1, hn, ly0, fq_of (e_x_isLand _ _), fq_of (i_x_isThing q _), b2_0, hc, zne, zeq])).mpr (w_sk2.mpr ?_))
        simp only [f_mkF, w_sI, w_sR, w_sL, w_sC, w_sk, w_sbr, w_sco, w_rV, w_rI, w_rR, w_rL, w_dI, w_sO, w_sq, w_si, w_pI, w_pZ, w_pR, w_pU, w_qI, w_qB, w_qZ, w_qU, w_qR, w_kV, q_icst, q_lcst, q_xR, q_ldI, q_ldR, q_ldL, q_bn, q_un, q_dv, q_fI, q_fR, q_aI, q_aR, q_aN, q_tn, q_cmp, q_cmz, q_cnt, q_ctt, q_cand, q_cor, q_vn, q_vI, q_vR, q_vL, q_kI, q_kR, q_kL, q_ckI, envN, argE, List.flatMap_cons, List.flatMap_nil, Value.category, junk, oadd, osub, omul, oand, oor, oxor, odiv, orem, oshl, oshr, oushr, omax, omin]
        simp (disch := first | omega | simp) [rk_i, rk_b, rk_o, st1, kill, Value.category, rcv, nog, inI_b, nI_clamp, nI_ltI, nI_leI, nI_eq, nI_9, nI_6, nI_22, nI_12, nI_180, nI_add, nI_1, hn, ly0]
        refine fq_mono (x_judge y (by omega) (inv_ic q) ht rfl (by rw [q.2.1.1, hno])) ?_
        rintro r h1 ⟨rfl, fj, ic, -⟩
        simp [rk_i, rk_b, rk_o, st1, kill, Value.category, rcv, nog, fj, ic]
      obtain ⟨r, h1, e1, rfl, fj, ic⟩ := X
      have m1 := m.fj fj
      have hn1 := m1.1.1
      have e72' : h1.2.1 172 t = nI (W_n w) := (fj.2.2 172 t (by unfold SJ SX; omega)).trans e72
      have e2' : h1.2.1 166 2 = h.2.1 166 2 := fj.2.2 166 2 (by unfold SJ SX; omega)
      have Y : fq F_X11_whose [.ref 166, .int (nI (W_f w)), .int (nI t)] h1 fun r h' => r = some (.int (whz w 0)) ∧ Fr SN h1 h' := by
        unfold F_X11_whose
        refine f_mkE _ rfl (by simp [argE, Value.category]) ?_
        refine w_sq.mpr ((w_siF (by simp only [f_mkF, w_sI, w_sR, w_sL, w_sC, w_sk, w_sbr, w_sco, w_rV, w_rI, w_rR, w_rL, w_dI, w_sO, w_sq, w_si, w_pI, w_pZ, w_pR, w_pU, w_qI, w_qB, w_qZ, w_qU, w_qR, w_kV, q_icst, q_lcst, q_xR, q_ldI, q_ldR, q_ldL, q_bn, q_un, q_dv, q_fI, q_fR, q_aI, q_aR, q_aN, q_tn, q_cmp, q_cmz, q_cnt, q_ctt, q_cand, q_cor, q_vn, q_vI, q_vR, q_vL, q_kI, q_kR, q_kL, q_ckI, envN, argE, List.flatMap_cons, List.flatMap_nil, Value.category, junk, oadd, osub, omul, oand, oor, oxor, odiv, orem, oshl, oshr, oushr, omax, omin]; simp (disch := first | omega | simp) [rk_i, rk_b, rk_o, st1, kill, Value.category, rcv, nog, inI_b, nI_clamp, nI_ltI, nI_leI, nI_eq, nI_9, nI_6, nI_22, nI_12, nI_180, nI_add, nI_1, hn1, ly166, fq_of (m_can hn1 _ _), b2_0, e2', hc, zne, zeq])).mpr (w_sk2.mpr ?_))
        refine w_fz fun B hB C hC => ?_
        simp only [f_mkF, w_sI, w_sR, w_sL, w_sC, w_sk, w_sbr, w_sco, w_rV, w_rI, w_rR, w_rL, w_dI, w_sO, w_sq, w_si, w_pI, w_pZ, w_pR, w_pU, w_qI, w_qB, w_qZ, w_qU, w_qR, w_kV, q_icst, q_lcst, q_xR, q_ldI, q_ldR, q_ldL, q_bn, q_un, q_dv, q_fI, q_fR, q_aI, q_aR, q_aN, q_tn, q_cmp, q_cmz, q_cnt, q_ctt, q_cand, q_cor, q_vn, q_vI, q_vR, q_vL, q_kI, q_kR, q_kL, q_ckI, envN, argE, List.flatMap_cons, List.flatMap_nil, Value.category, junk, oadd, osub, omul, oand, oor, oxor, odiv, orem, oshl, oshr, oushr, omax, omin]
        simp (disch := first | omega | simp) [rk_i, rk_b, rk_o, st1, kill, Value.category, rcv, nog, inI_b, nI_clamp, nI_ltI, nI_leI, nI_eq, nI_9, nI_6, nI_22, nI_12, nI_180, nI_add, nI_1, hn1, ly166]
        refine fq_mono (m_judges m1 e72') ?_
        rintro r h2 ⟨rfl, f2, hR, e51, -⟩
        simp
        subst hB hC
        have hn2 : h2.1 = 212 := f2.1.trans hn1
        simp only [f_mkF, w_sI, w_sR, w_sL, w_sC, w_sk, w_sbr, w_sco, w_rV, w_rI, w_rR, w_rL, w_dI, w_sO, w_sq, w_si, w_pI, w_pZ, w_pR, w_pU, w_qI, w_qB, w_qZ, w_qU, w_qR, w_kV, q_icst, q_lcst, q_xR, q_ldI, q_ldR, q_ldL, q_bn, q_un, q_dv, q_fI, q_fR, q_aI, q_aR, q_aN, q_tn, q_cmp, q_cmz, q_cnt, q_ctt, q_cand, q_cor, q_vn, q_vI, q_vR, q_vL, q_kI, q_kR, q_kL, q_ckI, envN, argE, List.flatMap_cons, List.flatMap_nil, Value.category, junk, oadd, osub, omul, oand, oor, oxor, odiv, orem, oshl, oshr, oushr, omax, omin]
        simp [rk_i, rk_b, rk_o, st1, kill, Value.category, rcv, nog, hn2, ly166, e51, f2]
      obtain ⟨r, h2, e2, rfl, f2⟩ := Y
      exact ⟨_, h1, h2, e1, hn1, e2, inv_j q fj f2 SN_ok (by omega) ic⟩
    · refine ⟨-1, h, h, ?_, hn, ?_, INV_up q⟩
      · rw [← fq_eq]
        unfold F_X10_whose
        refine f_mkE _ rfl (by simp [argE, Value.category]) ?_
        refine w_sq.mpr ((w_siT ?_).mpr ?_)
        · simp only [f_mkF, w_sI, w_sR, w_sL, w_sC, w_sk, w_sbr, w_sco, w_rV, w_rI, w_rR, w_rL, w_dI, w_sO, w_sq, w_si, w_pI, w_pZ, w_pR, w_pU, w_qI, w_qB, w_qZ, w_qU, w_qR, w_kV, q_icst, q_lcst, q_xR, q_ldI, q_ldR, q_ldL, q_bn, q_un, q_dv, q_fI, q_fR, q_aI, q_aR, q_aN, q_tn, q_cmp, q_cmz, q_cnt, q_ctt, q_cand, q_cor, q_vn, q_vI, q_vR, q_vL, q_kI, q_kR, q_kL, q_ckI, envN, argE, List.flatMap_cons, List.flatMap_nil, Value.category, junk, oadd, osub, omul, oand, oor, oxor, odiv, orem, oshl, oshr, oushr, omax, omin]
          simp [rk_i, rk_b, rk_o, st1, kill, Value.category, rcv, nog, fq_of (e_x_isLand _ _), fq_of (i_x_isThing q _), b2_0, hn, ly0, zne, zeq]
          grind
        · simp only [f_mkF, w_sI, w_sR, w_sL, w_sC, w_sk, w_sbr, w_sco, w_rV, w_rI, w_rR, w_rL, w_dI, w_sO, w_sq, w_si, w_pI, w_pZ, w_pR, w_pU, w_qI, w_qB, w_qZ, w_qU, w_qR, w_kV, q_icst, q_lcst, q_xR, q_ldI, q_ldR, q_ldL, q_bn, q_un, q_dv, q_fI, q_fR, q_aI, q_aR, q_aN, q_tn, q_cmp, q_cmz, q_cnt, q_ctt, q_cand, q_cor, q_vn, q_vI, q_vR, q_vL, q_kI, q_kR, q_kL, q_ckI, envN, argE, List.flatMap_cons, List.flatMap_nil, Value.category, junk, oadd, osub, omul, oand, oor, oxor, odiv, orem, oshl, oshr, oushr, omax, omin]; simp [rk_i, rk_b, rk_o, st1, kill, Value.category, rcv, nog]
      · rw [← fq_eq]
        unfold F_X11_whose
        refine f_mkE _ rfl (by simp [argE, Value.category]) ?_
        refine w_sq.mpr ((w_siT ?_).mpr ?_)
        · simp only [f_mkF, w_sI, w_sR, w_sL, w_sC, w_sk, w_sbr, w_sco, w_rV, w_rI, w_rR, w_rL, w_dI, w_sO, w_sq, w_si, w_pI, w_pZ, w_pR, w_pU, w_qI, w_qB, w_qZ, w_qU, w_qR, w_kV, q_icst, q_lcst, q_xR, q_ldI, q_ldR, q_ldL, q_bn, q_un, q_dv, q_fI, q_fR, q_aI, q_aR, q_aN, q_tn, q_cmp, q_cmz, q_cnt, q_ctt, q_cand, q_cor, q_vn, q_vI, q_vR, q_vL, q_kI, q_kR, q_kL, q_ckI, envN, argE, List.flatMap_cons, List.flatMap_nil, Value.category, junk, oadd, osub, omul, oand, oor, oxor, odiv, orem, oshl, oshr, oushr, omax, omin]
          simp [rk_i, rk_b, rk_o, st1, kill, Value.category, rcv, nog, fq_of (m_can hn _ _), b2_0, hn, ly166, zne, zeq]
          grind
        · simp only [f_mkF, w_sI, w_sR, w_sL, w_sC, w_sk, w_sbr, w_sco, w_rV, w_rI, w_rR, w_rL, w_dI, w_sO, w_sq, w_si, w_pI, w_pZ, w_pR, w_pU, w_qI, w_qB, w_qZ, w_qU, w_qR, w_kV, q_icst, q_lcst, q_xR, q_ldI, q_ldR, q_ldL, q_bn, q_un, q_dv, q_fI, q_fR, q_aI, q_aR, q_aN, q_tn, q_cmp, q_cmz, q_cnt, q_ctt, q_cand, q_cor, q_vn, q_vI, q_vR, q_vL, q_kI, q_kR, q_kL, q_ckI, envN, argE, List.flatMap_cons, List.flatMap_nil, Value.category, junk, oadd, osub, omul, oand, oor, oxor, odiv, orem, oshl, oshr, oushr, omax, omin]; simp [rk_i, rk_b, rk_o, st1, kill, Value.category, rcv, nog]
theorem g_title : AG (INV LWc) F_X10_title F_X11_title 3 := by
  intro n h vs hl hn5 q
  match vs, hl with
  | [a, b, c], _ =>
    have hn := q.1.1
    by_cases hc : (0 ≤ a ∧ a ≤ 5) ∧ ((0 ≤ b ∧ b < h.2.1 166 2) ∧ 0 ≤ c ∧ c < h.2.1 172 b.toNatClampNeg)
    · obtain ⟨f, hf, rfl⟩ := land_num hc.1
      obtain ⟨t, i, m0, ht, rfl, rfl, hi, hm0, e72o⟩ := pa_num q hc.2
      obtain ⟨w, ra, y, m, e72, rfl, hno, -⟩ := wd_of q hf ht hc.2.1.2
      have hi' : i < W_n w := by
        rw [e72o] at e72
        have := m.wv.1
        rw [nI_eq (by omega) (by omega)] at e72
        omega
      have n20 := m.wv.1
      have hlt : nI i < h.2.1 172 t := by rw [e72, nI_ltI (by omega) (by omega)]; exact hi'
      have i20 : i < 20 := by omega
      have i22 : i < 22 := by omega
      have X : fq F_X10_title [.ref 0, .int (nI (W_f w)), .int (nI t), .int (nI i)] h fun r h' => r = some (.int (tlt w 0 (lows w) i)) ∧ Fj h h' ∧ IC (20 * n + 1) h' := by
        unfold F_X10_title
        refine f_mkE _ rfl (by simp [argE, Value.category]) ?_
        refine w_sq.mpr ((w_siF (by simp only [f_mkF, w_sI, w_sR, w_sL, w_sC, w_sk, w_sbr, w_sco, w_rV, w_rI, w_rR, w_rL, w_dI, w_sO, w_sq, w_si, w_pI, w_pZ, w_pR, w_pU, w_qI, w_qB, w_qZ, w_qU, w_qR, w_kV, q_icst, q_lcst, q_xR, q_ldI, q_ldR, q_ldL, q_bn, q_un, q_dv, q_fI, q_fR, q_aI, q_aR, q_aN, q_tn, q_cmp, q_cmz, q_cnt, q_ctt, q_cand, q_cor, q_vn, q_vI, q_vR, q_vL, q_kI, q_kR, q_kL, q_ckI, envN, argE, List.flatMap_cons, List.flatMap_nil, Value.category, junk, oadd, osub, omul, oand, oor, oxor, odiv, orem, oshl, oshr, oushr, omax, omin]; simp (disch := first | omega | simp) [rk_i, rk_b, rk_o, st1, kill, Value.category, rcv, nog, inI_b, nI_clamp, nI_ltI, nI_leI, nI_eq, nI_9, nI_6, nI_22, nI_12, nI_180, nI_add, nI_1, hn, ly0, fq_of (e_x_isLand _ _), fq_of (i_x_isPassing q _ _), b2_0, hc, hlt, zne, zeq])).mpr (w_sk2.mpr ?_))
        refine w_fz fun B hB C hC => ?_
        simp only [f_mkF, w_sI, w_sR, w_sL, w_sC, w_sk, w_sbr, w_sco, w_rV, w_rI, w_rR, w_rL, w_dI, w_sO, w_sq, w_si, w_pI, w_pZ, w_pR, w_pU, w_qI, w_qB, w_qZ, w_qU, w_qR, w_kV, q_icst, q_lcst, q_xR, q_ldI, q_ldR, q_ldL, q_bn, q_un, q_dv, q_fI, q_fR, q_aI, q_aR, q_aN, q_tn, q_cmp, q_cmz, q_cnt, q_ctt, q_cand, q_cor, q_vn, q_vI, q_vR, q_vL, q_kI, q_kR, q_kL, q_ckI, envN, argE, List.flatMap_cons, List.flatMap_nil, Value.category, junk, oadd, osub, omul, oand, oor, oxor, odiv, orem, oshl, oshr, oushr, omax, omin]
        simp (disch := first | omega | simp) [rk_i, rk_b, rk_o, st1, kill, Value.category, rcv, nog, inI_b, nI_clamp, nI_ltI, nI_leI, nI_eq, nI_9, nI_6, nI_22, nI_12, nI_180, nI_add, nI_1, hn, ly0]
        refine fq_mono (x_judge y (by omega) (inv_ic q) ht rfl (by rw [q.2.1.1, hno])) ?_
        rintro r h1 ⟨rfl, fj, ic, cx, -, hX, -⟩
        simp
        subst hB hC
        have hn1 := cx.1.1
        have p8 : h1.2.2 0 8 = some 147 := cx.1.2.1.at 8 rfl
        have p5 : h1.2.2 147 5 = some 152 := cx.1.2.1.at 68 rfl
        simp only [f_mkF, w_sI, w_sR, w_sL, w_sC, w_sk, w_sbr, w_sco, w_rV, w_rI, w_rR, w_rL, w_dI, w_sO, w_sq, w_si, w_pI, w_pZ, w_pR, w_pU, w_qI, w_qB, w_qZ, w_qU, w_qR, w_kV, q_icst, q_lcst, q_xR, q_ldI, q_ldR, q_ldL, q_bn, q_un, q_dv, q_fI, q_fR, q_aI, q_aR, q_aN, q_tn, q_cmp, q_cmz, q_cnt, q_ctt, q_cand, q_cor, q_vn, q_vI, q_vR, q_vL, q_kI, q_kR, q_kL, q_ckI, envN, argE, List.flatMap_cons, List.flatMap_nil, Value.category, junk, oadd, osub, omul, oand, oor, oxor, odiv, orem, oshl, oshr, oushr, omax, omin]
        simp (disch := first | omega | simp) [rk_i, rk_b, rk_o, st1, kill, Value.category, rcv, nog, inI_b, nI_clamp, nI_ltI, nI_leI, nI_eq, nI_9, nI_6, nI_22, nI_12, nI_180, nI_add, nI_1, hn1, ly0, ly147, ly152, p8, p5, i20, (hX.2 i hi').1, fj, ic]
      obtain ⟨r, h1, e1, rfl, fj, ic⟩ := X
      have m1 := m.fj fj
      have hn1 := m1.1.1
      have e72' : h1.2.1 172 t = nI (W_n w) := (fj.2.2 172 t (by unfold SJ SX; omega)).trans e72
      have e2' : h1.2.1 166 2 = h.2.1 166 2 := fj.2.2 166 2 (by unfold SJ SX; omega)
      have e3' : ∀ k, h1.2.1 172 k = h.2.1 172 k := fun k => fj.2.2 172 k (by unfold SJ SX; omega)
      have h24 : (h1.2.1 166 2).toInt ≤ 4 := by rw [e2']; exact q.2.2.2.2.2.2.1.2.1.2
      have Y : fq F_X11_title [.ref 166, .int (nI (W_f w)), .int (nI t), .int (nI i)] h1 fun r h' => r = some (.int (tlt w 0 (lows w) i)) ∧ Fr SN h1 h' := by
        unfold F_X11_title
        refine f_mkE _ rfl (by simp [argE, Value.category]) ?_
        refine w_sq.mpr ((w_siF (by simp only [f_mkF, w_sI, w_sR, w_sL, w_sC, w_sk, w_sbr, w_sco, w_rV, w_rI, w_rR, w_rL, w_dI, w_sO, w_sq, w_si, w_pI, w_pZ, w_pR, w_pU, w_qI, w_qB, w_qZ, w_qU, w_qR, w_kV, q_icst, q_lcst, q_xR, q_ldI, q_ldR, q_ldL, q_bn, q_un, q_dv, q_fI, q_fR, q_aI, q_aR, q_aN, q_tn, q_cmp, q_cmz, q_cnt, q_ctt, q_cand, q_cor, q_vn, q_vI, q_vR, q_vL, q_kI, q_kR, q_kL, q_ckI, envN, argE, List.flatMap_cons, List.flatMap_nil, Value.category, junk, oadd, osub, omul, oand, oor, oxor, odiv, orem, oshl, oshr, oushr, omax, omin]; simp (disch := first | omega | simp) [rk_i, rk_b, rk_o, st1, kill, Value.category, rcv, nog, inI_b, nI_clamp, nI_ltI, nI_leI, nI_eq, nI_9, nI_6, nI_22, nI_12, nI_180, nI_add, nI_1, hn1, ly166, fq_of (e_m_isLand _ _), fq_of (e_m_isPassing m1.1 _ _ h24), b2_0, e2', e3', hc, hlt, zne, zeq])).mpr (w_sk2.mpr ?_))
        refine w_fz fun B hB C hC => ?_
        simp only [f_mkF, w_sI, w_sR, w_sL, w_sC, w_sk, w_sbr, w_sco, w_rV, w_rI, w_rR, w_rL, w_dI, w_sO, w_sq, w_si, w_pI, w_pZ, w_pR, w_pU, w_qI, w_qB, w_qZ, w_qU, w_qR, w_kV, q_icst, q_lcst, q_xR, q_ldI, q_ldR, q_ldL, q_bn, q_un, q_dv, q_fI, q_fR, q_aI, q_aR, q_aN, q_tn, q_cmp, q_cmz, q_cnt, q_ctt, q_cand, q_cor, q_vn, q_vI, q_vR, q_vL, q_kI, q_kR, q_kL, q_ckI, envN, argE, List.flatMap_cons, List.flatMap_nil, Value.category, junk, oadd, osub, omul, oand, oor, oxor, odiv, orem, oshl, oshr, oushr, omax, omin]
        simp (disch := first | omega | simp) [rk_i, rk_b, rk_o, st1, kill, Value.category, rcv, nog, inI_b, nI_clamp, nI_ltI, nI_leI, nI_eq, nI_9, nI_6, nI_22, nI_12, nI_180, nI_add, nI_1, hn1, ly166]
        refine fq_mono (m_judges m1 e72') ?_
        rintro r h2 ⟨rfl, f2, hR, e51, -⟩
        simp
        subst hB hC
        have hn2 : h2.1 = 212 := f2.1.trans hn1
        have hm2 : ∀ k, h2.2.2 166 k = mp k := fun k => by rw [f2.2.1]; exact m1.1.2.2 k
        simp only [f_mkF, w_sI, w_sR, w_sL, w_sC, w_sk, w_sbr, w_sco, w_rV, w_rI, w_rR, w_rL, w_dI, w_sO, w_sq, w_si, w_pI, w_pZ, w_pR, w_pU, w_qI, w_qB, w_qZ, w_qU, w_qR, w_kV, q_icst, q_lcst, q_xR, q_ldI, q_ldR, q_ldL, q_bn, q_un, q_dv, q_fI, q_fR, q_aI, q_aR, q_aN, q_tn, q_cmp, q_cmz, q_cnt, q_ctt, q_cand, q_cor, q_vn, q_vI, q_vR, q_vL, q_kI, q_kR, q_kL, q_ckI, envN, argE, List.flatMap_cons, List.flatMap_nil, Value.category, junk, oadd, osub, omul, oand, oor, oxor, odiv, orem, oshl, oshr, oushr, omax, omin]
        simp (disch := first | omega | simp) [rk_i, rk_b, rk_o, st1, kill, Value.category, rcv, nog, inI_b, nI_clamp, nI_ltI, nI_leI, nI_eq, nI_9, nI_6, nI_22, nI_12, nI_180, nI_add, nI_1, hn2, ly166, ly201, hm2, mp, i22, (hR i hi').2.1, f2]
      obtain ⟨r, h2, e2, rfl, f2⟩ := Y
      exact ⟨_, h1, h2, e1, hn1, e2, inv_j q fj f2 SN_ok (by omega) ic⟩
    · refine ⟨-1, h, h, ?_, hn, ?_, INV_up q⟩
      · rw [← fq_eq]
        unfold F_X10_title
        refine f_mkE _ rfl (by simp [argE, Value.category]) ?_
        refine w_sq.mpr ((w_siT ?_).mpr ?_)
        · simp only [f_mkF, w_sI, w_sR, w_sL, w_sC, w_sk, w_sbr, w_sco, w_rV, w_rI, w_rR, w_rL, w_dI, w_sO, w_sq, w_si, w_pI, w_pZ, w_pR, w_pU, w_qI, w_qB, w_qZ, w_qU, w_qR, w_kV, q_icst, q_lcst, q_xR, q_ldI, q_ldR, q_ldL, q_bn, q_un, q_dv, q_fI, q_fR, q_aI, q_aR, q_aN, q_tn, q_cmp, q_cmz, q_cnt, q_ctt, q_cand, q_cor, q_vn, q_vI, q_vR, q_vL, q_kI, q_kR, q_kL, q_ckI, envN, argE, List.flatMap_cons, List.flatMap_nil, Value.category, junk, oadd, osub, omul, oand, oor, oxor, odiv, orem, oshl, oshr, oushr, omax, omin]
          simp [rk_i, rk_b, rk_o, st1, kill, Value.category, rcv, nog, fq_of (e_x_isLand _ _), fq_of (i_x_isPassing q _ _), b2_0, hn, ly0, zne, zeq]
          grind
        · simp only [f_mkF, w_sI, w_sR, w_sL, w_sC, w_sk, w_sbr, w_sco, w_rV, w_rI, w_rR, w_rL, w_dI, w_sO, w_sq, w_si, w_pI, w_pZ, w_pR, w_pU, w_qI, w_qB, w_qZ, w_qU, w_qR, w_kV, q_icst, q_lcst, q_xR, q_ldI, q_ldR, q_ldL, q_bn, q_un, q_dv, q_fI, q_fR, q_aI, q_aR, q_aN, q_tn, q_cmp, q_cmz, q_cnt, q_ctt, q_cand, q_cor, q_vn, q_vI, q_vR, q_vL, q_kI, q_kR, q_kL, q_ckI, envN, argE, List.flatMap_cons, List.flatMap_nil, Value.category, junk, oadd, osub, omul, oand, oor, oxor, odiv, orem, oshl, oshr, oushr, omax, omin]; simp [rk_i, rk_b, rk_o, st1, kill, Value.category, rcv, nog]
      · rw [← fq_eq]
        unfold F_X11_title
        refine f_mkE _ rfl (by simp [argE, Value.category]) ?_
        refine w_sq.mpr ((w_siT ?_).mpr ?_)
        · simp only [f_mkF, w_sI, w_sR, w_sL, w_sC, w_sk, w_sbr, w_sco, w_rV, w_rI, w_rR, w_rL, w_dI, w_sO, w_sq, w_si, w_pI, w_pZ, w_pR, w_pU, w_qI, w_qB, w_qZ, w_qU, w_qR, w_kV, q_icst, q_lcst, q_xR, q_ldI, q_ldR, q_ldL, q_bn, q_un, q_dv, q_fI, q_fR, q_aI, q_aR, q_aN, q_tn, q_cmp, q_cmz, q_cnt, q_ctt, q_cand, q_cor, q_vn, q_vI, q_vR, q_vL, q_kI, q_kR, q_kL, q_ckI, envN, argE, List.flatMap_cons, List.flatMap_nil, Value.category, junk, oadd, osub, omul, oand, oor, oxor, odiv, orem, oshl, oshr, oushr, omax, omin]
          simp [rk_i, rk_b, rk_o, st1, kill, Value.category, rcv, nog, fq_of (e_m_isLand _ _), fq_of (i_m_isPassing q _ _), b2_0, hn, ly166, zne, zeq]
          grind
        · simp only [f_mkF, w_sI, w_sR, w_sL, w_sC, w_sk, w_sbr, w_sco, w_rV, w_rI, w_rR, w_rL, w_dI, w_sO, w_sq, w_si, w_pI, w_pZ, w_pR, w_pU, w_qI, w_qB, w_qZ, w_qU, w_qR, w_kV, q_icst, q_lcst, q_xR, q_ldI, q_ldR, q_ldL, q_bn, q_un, q_dv, q_fI, q_fR, q_aI, q_aR, q_aN, q_tn, q_cmp, q_cmz, q_cnt, q_ctt, q_cand, q_cor, q_vn, q_vI, q_vR, q_vL, q_kI, q_kR, q_kL, q_ckI, envN, argE, List.flatMap_cons, List.flatMap_nil, Value.category, junk, oadd, osub, omul, oand, oor, oxor, odiv, orem, oshl, oshr, oushr, omax, omin]; simp [rk_i, rk_b, rk_o, st1, kill, Value.category, rcv, nog]
