/-! passing: the class's, and both -/
theorem spl_n : ∀ q ∈ spl, q.1 ≠ 29 ∧ q.1 ≠ 51 ∧ q.1 ≠ 73 ∧ q.1 ≠ 95 := by decide
theorem Ip_r {h h' : Hp} {t : Nat} (ht : t < 4) (e1 : h'.1 = h.1) (er : ∀ a k, a ≠ 29 + 22 * t → h'.2.2 a k = h.2.2 a k) (q : Ip h) : Ip h' := by
  refine ⟨e1.trans q.1, fun x hx => ?_, fun k => ?_⟩
  · rw [er _ _ (by have := spl_n x hx; omega)]
    exact q.2.1 x hx
  · rw [er _ _ (by omega)]
    exact q.2.2 k
theorem e_x_pass {LW : Hp → Prop} {N : Nat} {h : Hp} (q : INV LW N h) {t n : Nat} {ra : Nat → Nat} (ht : t < 4) (t1 : TH h (28 + 22 * t) ra n (mrow h t)) (kind to land month price signs lo hi : Int32) (hc : VP h (nI t) kind to land month price signs lo hi) (P : Option Value → Hp → Prop) (hP1 : ¬ (n < 20 ∧ to ≠ frm (mrow h t) (h.2.1 170 t) (plc (mrow h t) month n) ∧ (plc (mrow h t) month n < n → mrow h t (plc (mrow h t) month n) 1 ≠ to)) → P (some (.int (-1))) h) (hP2 : (n < 20 ∧ to ≠ frm (mrow h t) (h.2.1 170 t) (plc (mrow h t) month n) ∧ (plc (mrow h t) month n < n → mrow h t (plc (mrow h t) month n) 1 ≠ to)) → ∀ h', h'.1 = 212 → (∀ i, i < 20 → h'.2.2 (29 + 22 * t) i = some (insA ra n (plc (mrow h t) month n) i)) → (∀ a k, a ≠ 29 + 22 * t → h'.2.2 a k = h.2.2 a k) → h'.2.1 (28 + 22 * t) 1 = nI (n + 1) → (∀ k, k < 8 → h'.2.1 (ra n) k = r8 kind to land month price signs lo hi k) → (∀ a j, a ≠ ra n → ¬ (a = 28 + 22 * t ∧ j = 1) → h'.2.1 a j = h.2.1 a j) → P (some (.int (nI (plc (mrow h t) month n)))) h') : fq F_X10_passing [.ref 0, .int (nI t), .int kind, .int to, .int land, .int month, .int price, .int signs, .int lo, .int hi] h P := by
  have q0 := q.1
  have hn := q0.1
  obtain ⟨p1, p2, -⟩ := ptT q0 ht
  have p3 : 28 + 22 * t < 212 := by omega
  have p4 : h.2.2 0 2 = some 3 := q0.2.1.at 2 rfl
  have hpl := plc_le (mrow h t) month n
  have e1 := e_x_place t1 month
  have e2 := e_x_can t1 to hpl
  have ek := q.2.1.1
  rw [(th_fo q ht).1] at e2
  generalize plc (mrow h t) month n = p at *
  obtain ⟨v1, v2, v3, v4, v5, v6, v7, v8⟩ := hc
  have hE : envN 13 [Value.ref 0, Value.int (nI t), Value.int kind, Value.int to, Value.int land, Value.int month, Value.int price, Value.int signs, Value.int lo, Value.int hi] = [Value.ref 0, Value.int (nI t), Value.int kind, Value.int to, Value.int land, Value.int month, Value.int price, Value.int signs, Value.int lo, Value.int hi, junk, junk, junk] := rfl
  unfold F_X10_passing
  rw [f_mkF, hE]
  refine ⟨by simp [argE, Value.category], ?_⟩
  refine w_sq.mpr ((w_siF ?_).mpr (w_sk2.mpr ?_))
  · simp only [f_mkF, w_sI, w_sR, w_sL, w_sC, w_sk, w_sbr, w_sco, w_rV, w_rI, w_rR, w_rL, w_dI, w_sO, w_sq, w_si, w_pI, w_pZ, w_pR, w_pU, w_qI, w_qB, w_qZ, w_qU, w_qR, w_kV, q_icst, q_lcst, q_xR, q_ldI, q_ldR, q_ldL, q_bn, q_un, q_dv, q_fI, q_fR, q_aI, q_aR, q_aN, q_tn, q_cmp, q_cmz, q_cnt, q_ctt, q_cand, q_cor, q_vn, q_vI, q_vR, q_vL, q_kI, q_kR, q_kL, q_ckI, envN, argE, List.flatMap_cons, List.flatMap_nil, Value.category, junk, oadd, osub, omul, oand, oor, oxor, odiv, orem, oshl, oshr, oushr, omax, omin]
    simp [rk_i, rk_b, rk_o, st1, kill, Value.category, rcv, nog, hn, ly0, fq_of (i_x_isThing q _), fq_of (i_x_isPerson q _), fq_of (e_x_isLand _ _), fq_of (e_x_isRange _ _ _), b2_0, zeq, zne, v1, v3, v4, v8]
  refine w_sq.mpr ((w_siF ?_).mpr (w_sk2.mpr ?_))
  · simp only [f_mkF, w_sI, w_sR, w_sL, w_sC, w_sk, w_sbr, w_sco, w_rV, w_rI, w_rR, w_rL, w_dI, w_sO, w_sq, w_si, w_pI, w_pZ, w_pR, w_pU, w_qI, w_qB, w_qZ, w_qU, w_qR, w_kV, q_icst, q_lcst, q_xR, q_ldI, q_ldR, q_ldL, q_bn, q_un, q_dv, q_fI, q_fR, q_aI, q_aR, q_aN, q_tn, q_cmp, q_cmz, q_cnt, q_ctt, q_cand, q_cor, q_vn, q_vI, q_vR, q_vL, q_kI, q_kR, q_kL, q_ckI, envN, argE, List.flatMap_cons, List.flatMap_nil, Value.category, junk, oadd, osub, omul, oand, oor, oxor, odiv, orem, oshl, oshr, oushr, omax, omin]
    simp [rk_i, rk_b, rk_o, st1, kill, Value.category, rcv, nog, hn, ly0, ek, fq_of (e_x_isWithin _ _ _ _), b2_0, zeq, zne, v2, v5, v7]
  refine w_sq.mpr ((w_siF ?_).mpr (w_sk2.mpr ?_))
  · simp only [f_mkF, w_sI, w_sR, w_sL, w_sC, w_sk, w_sbr, w_sco, w_rV, w_rI, w_rR, w_rL, w_dI, w_sO, w_sq, w_si, w_pI, w_pZ, w_pR, w_pU, w_qI, w_qB, w_qZ, w_qU, w_qR, w_kV, q_icst, q_lcst, q_xR, q_ldI, q_ldR, q_ldL, q_bn, q_un, q_dv, q_fI, q_fR, q_aI, q_aR, q_aN, q_tn, q_cmp, q_cmz, q_cnt, q_ctt, q_cand, q_cor, q_vn, q_vI, q_vR, q_vL, q_kI, q_kR, q_kL, q_ckI, envN, argE, List.flatMap_cons, List.flatMap_nil, Value.category, junk, oadd, osub, omul, oand, oor, oxor, odiv, orem, oshl, oshr, oushr, omax, omin]
    simp [rk_i, rk_b, rk_o, st1, kill, Value.category, rcv, nog, fq_of (e_x_isWithin _ _ _ _), b2_0, zeq, zne]
    grind
  (refine w_fz fun B hB C hC => ?_); (simp only [f_mkF, w_sI, w_sR, w_sL, w_sC, w_sk, w_sbr, w_sco, w_rV, w_rI, w_rR, w_rL, w_dI, w_sO, w_sq, w_si, w_pI, w_pZ, w_pR, w_pU, w_qI, w_qB, w_qZ, w_qU, w_qR, w_kV, q_icst, q_lcst, q_xR, q_ldI, q_ldR, q_ldL, q_bn, q_un, q_dv, q_fI, q_fR, q_aI, q_aR, q_aN, q_tn, q_cmp, q_cmz, q_cnt, q_ctt, q_cand, q_cor, q_vn, q_vI, q_vR, q_vL, q_kI, q_kR, q_kL, q_ckI, envN, argE, List.flatMap_cons, List.flatMap_nil, Value.category, junk, oadd, osub, omul, oand, oor, oxor, odiv, orem, oshl, oshr, oushr, omax, omin]); (simp (disch := first | omega | simp) [rk_i, rk_b, rk_o, st1, kill, Value.category, rcv, nog, inI_b, nI_clamp, nI_ltI, nI_leI, nI_eq, nI_9, nI_6, nI_22, nI_12, nI_180, nI_add, nI_1, hn, ly0, ly3, p1, p2, p3, p4, ht]); (subst hB hC)
  (refine w_fz fun B hB C hC => ?_); (simp only [f_mkF, w_sI, w_sR, w_sL, w_sC, w_sk, w_sbr, w_sco, w_rV, w_rI, w_rR, w_rL, w_dI, w_sO, w_sq, w_si, w_pI, w_pZ, w_pR, w_pU, w_qI, w_qB, w_qZ, w_qU, w_qR, w_kV, q_icst, q_lcst, q_xR, q_ldI, q_ldR, q_ldL, q_bn, q_un, q_dv, q_fI, q_fR, q_aI, q_aR, q_aN, q_tn, q_cmp, q_cmz, q_cnt, q_ctt, q_cand, q_cor, q_vn, q_vI, q_vR, q_vL, q_kI, q_kR, q_kL, q_ckI, envN, argE, List.flatMap_cons, List.flatMap_nil, Value.category, junk, oadd, osub, omul, oand, oor, oxor, odiv, orem, oshl, oshr, oushr, omax, omin]); (simp (disch := first | omega | simp) [rk_i, rk_b, rk_o, st1, kill, Value.category, rcv, nog, inI_b, nI_clamp, nI_ltI, nI_leI, nI_eq, nI_9, nI_6, nI_22, nI_12, nI_180, nI_add, nI_1, hn, p2, p3, fq_of e1]); (subst hB hC)
  by_cases hr : n < 20 ∧ to ≠ frm (mrow h t) (h.2.1 170 t) p ∧ (p < n → mrow h t p 1 ≠ to)
  · have hP := hP2 hr
    clear hP1 hP2
    refine w_sq.mpr ((w_siF ?_).mpr (w_sk2.mpr ?_))
    · simp only [f_mkF, w_sI, w_sR, w_sL, w_sC, w_sk, w_sbr, w_sco, w_rV, w_rI, w_rR, w_rL, w_dI, w_sO, w_sq, w_si, w_pI, w_pZ, w_pR, w_pU, w_qI, w_qB, w_qZ, w_qU, w_qR, w_kV, q_icst, q_lcst, q_xR, q_ldI, q_ldR, q_ldL, q_bn, q_un, q_dv, q_fI, q_fR, q_aI, q_aR, q_aN, q_tn, q_cmp, q_cmz, q_cnt, q_ctt, q_cand, q_cor, q_vn, q_vI, q_vR, q_vL, q_kI, q_kR, q_kL, q_ckI, envN, argE, List.flatMap_cons, List.flatMap_nil, Value.category, junk, oadd, osub, omul, oand, oor, oxor, odiv, orem, oshl, oshr, oushr, omax, omin]
      simp [rk_i, rk_b, rk_o, st1, kill, Value.category, rcv, nog, hn, p2, p3, fq_of e2, b2_0, zeq, zne]
      exact hr
    have e3 := e_x_insert t1 hpl hr.1
    refine w_fz fun B hB C hC => ?_
    simp only [f_mkF, w_sI, w_sR, w_sL, w_sC, w_sk, w_sbr, w_sco, w_rV, w_rI, w_rR, w_rL, w_dI, w_sO, w_sq, w_si, w_pI, w_pZ, w_pR, w_pU, w_qI, w_qB, w_qZ, w_qU, w_qR, w_kV, q_icst, q_lcst, q_xR, q_ldI, q_ldR, q_ldL, q_bn, q_un, q_dv, q_fI, q_fR, q_aI, q_aR, q_aN, q_tn, q_cmp, q_cmz, q_cnt, q_ctt, q_cand, q_cor, q_vn, q_vI, q_vR, q_vL, q_kI, q_kR, q_kL, q_ckI, envN, argE, List.flatMap_cons, List.flatMap_nil, Value.category, junk, oadd, osub, omul, oand, oor, oxor, odiv, orem, oshl, oshr, oushr, omax, omin]
    simp (disch := first | omega | simp) [rk_i, rk_b, rk_o, st1, kill, Value.category, rcv, nog, hn, p2, p3]
    refine fq_mono e3 ?_
    rintro r h1 ⟨rfl, f1, f2, f3, f4⟩
    obtain ⟨u1, u2, u3, u4⟩ := t1.2.2.1 n hr.1
    have u5 : ra n < 212 := by omega
    simp [rk_i, rk_b, rk_o, st1, kill, Value.category, rcv, nog]
    subst hB hC
    (refine w_fz fun B hB C hC => ?_); (simp only [f_mkF, w_sI, w_sR, w_sL, w_sC, w_sk, w_sbr, w_sco, w_rV, w_rI, w_rR, w_rL, w_dI, w_sO, w_sq, w_si, w_pI, w_pZ, w_pR, w_pU, w_qI, w_qB, w_qZ, w_qU, w_qR, w_kV, q_icst, q_lcst, q_xR, q_ldI, q_ldR, q_ldL, q_bn, q_un, q_dv, q_fI, q_fR, q_aI, q_aR, q_aN, q_tn, q_cmp, q_cmz, q_cnt, q_ctt, q_cand, q_cor, q_vn, q_vI, q_vR, q_vL, q_kI, q_kR, q_kL, q_ckI, envN, argE, List.flatMap_cons, List.flatMap_nil, Value.category, junk, oadd, osub, omul, oand, oor, oxor, odiv, orem, oshl, oshr, oushr, omax, omin]); (simp (disch := first | omega | simp) [rk_i, rk_b, rk_o, st1, kill, Value.category, rcv, nog, inI_b, nI_clamp, nI_ltI, nI_leI, nI_eq, nI_9, nI_6, nI_22, nI_12, nI_180, nI_add, nI_1, f1, u5, u4, fq_of (e_x_goes (ra n) kind to land month h1 f1 u5 u4)]); (subst hB hC)
    have f1' : (wI (wI (wI (wI h1 (ra n) 0 kind) (ra n) 1 to) (ra n) 2 land) (ra n) 3 month).1 = 212 := f1
    (refine w_fz fun B hB C hC => ?_); (simp only [f_mkF, w_sI, w_sR, w_sL, w_sC, w_sk, w_sbr, w_sco, w_rV, w_rI, w_rR, w_rL, w_dI, w_sO, w_sq, w_si, w_pI, w_pZ, w_pR, w_pU, w_qI, w_qB, w_qZ, w_qU, w_qR, w_kV, q_icst, q_lcst, q_xR, q_ldI, q_ldR, q_ldL, q_bn, q_un, q_dv, q_fI, q_fR, q_aI, q_aR, q_aN, q_tn, q_cmp, q_cmz, q_cnt, q_ctt, q_cand, q_cor, q_vn, q_vI, q_vR, q_vL, q_kI, q_kR, q_kL, q_ckI, envN, argE, List.flatMap_cons, List.flatMap_nil, Value.category, junk, oadd, osub, omul, oand, oor, oxor, odiv, orem, oshl, oshr, oushr, omax, omin]); (simp (disch := first | omega | simp) [rk_i, rk_b, rk_o, st1, kill, Value.category, rcv, nog, inI_b, nI_clamp, nI_ltI, nI_leI, nI_eq, nI_9, nI_6, nI_22, nI_12, nI_180, nI_add, nI_1, f1', u5, u4, fq_of (e_x_costs (ra n) price signs _ f1' u5 u4)]); (subst hB hC)
    have f1'' : (wI (wI (wI (wI (wI (wI h1 (ra n) 0 kind) (ra n) 1 to) (ra n) 2 land) (ra n) 3 month) (ra n) 4 price) (ra n) 5 signs).1 = 212 := f1
    (refine w_fz fun B hB C hC => ?_); (simp only [f_mkF, w_sI, w_sR, w_sL, w_sC, w_sk, w_sbr, w_sco, w_rV, w_rI, w_rR, w_rL, w_dI, w_sO, w_sq, w_si, w_pI, w_pZ, w_pR, w_pU, w_qI, w_qB, w_qZ, w_qU, w_qR, w_kV, q_icst, q_lcst, q_xR, q_ldI, q_ldR, q_ldL, q_bn, q_un, q_dv, q_fI, q_fR, q_aI, q_aR, q_aN, q_tn, q_cmp, q_cmz, q_cnt, q_ctt, q_cand, q_cor, q_vn, q_vI, q_vR, q_vL, q_kI, q_kR, q_kL, q_ckI, envN, argE, List.flatMap_cons, List.flatMap_nil, Value.category, junk, oadd, osub, omul, oand, oor, oxor, odiv, orem, oshl, oshr, oushr, omax, omin]); (simp (disch := first | omega | simp) [rk_i, rk_b, rk_o, st1, kill, Value.category, rcv, nog, inI_b, nI_clamp, nI_ltI, nI_leI, nI_eq, nI_9, nI_6, nI_22, nI_12, nI_180, nI_add, nI_1, f1'', u5, u4, fq_of (e_x_knows (ra n) lo hi _ f1'' u5 u4)]); (subst hB hC)
    simp only [f_mkF, w_sI, w_sR, w_sL, w_sC, w_sk, w_sbr, w_sco, w_rV, w_rI, w_rR, w_rL, w_dI, w_sO, w_sq, w_si, w_pI, w_pZ, w_pR, w_pU, w_qI, w_qB, w_qZ, w_qU, w_qR, w_kV, q_icst, q_lcst, q_xR, q_ldI, q_ldR, q_ldL, q_bn, q_un, q_dv, q_fI, q_fR, q_aI, q_aR, q_aN, q_tn, q_cmp, q_cmz, q_cnt, q_ctt, q_cand, q_cor, q_vn, q_vI, q_vR, q_vL, q_kI, q_kR, q_kL, q_ckI, envN, argE, List.flatMap_cons, List.flatMap_nil, Value.category, junk, oadd, osub, omul, oand, oor, oxor, odiv, orem, oshl, oshr, oushr, omax, omin]
    simp [rk_i, rk_b, rk_o, st1, kill, Value.category, rcv, nog]
    have hne : ra n ≠ 28 + 22 * t := by omega
    have g : ∀ a j, a ≠ ra n → ¬ (a = 28 + 22 * t ∧ j = 1) → h1.2.1 a j = h.2.1 a j := fun a j z1 z2 => by rw [f2, wI_i, if_neg z2]
    refine hP _ f1 (fun i hi => by have := f3 i hi; rw [show 28 + 22 * t + 1 = 29 + 22 * t by omega] at this; exact this) (fun a k z => f4 a k (by omega)) ?_ (fun k hk => ?_) (fun a j z1 z2 => ?_)
    · simp only [wI_i]
      simp [hne.symm, f2, wI_i]
    · match k, hk with
      | 0, _ => simp [wI_i, r8]
      | 1, _ => simp [wI_i, r8]
      | 2, _ => simp [wI_i, r8]
      | 3, _ => simp [wI_i, r8]
      | 4, _ => simp [wI_i, r8]
      | 5, _ => simp [wI_i, r8]
      | 6, _ => simp [wI_i, r8]
      | 7, _ => simp [wI_i, r8]
    · simp only [wI_i]
      simp only [z1, false_and, if_false]
      exact g a j z1 z2
  · refine w_sq.mpr ((w_siT ?_).mpr ?_)
    · simp only [f_mkF, w_sI, w_sR, w_sL, w_sC, w_sk, w_sbr, w_sco, w_rV, w_rI, w_rR, w_rL, w_dI, w_sO, w_sq, w_si, w_pI, w_pZ, w_pR, w_pU, w_qI, w_qB, w_qZ, w_qU, w_qR, w_kV, q_icst, q_lcst, q_xR, q_ldI, q_ldR, q_ldL, q_bn, q_un, q_dv, q_fI, q_fR, q_aI, q_aR, q_aN, q_tn, q_cmp, q_cmz, q_cnt, q_ctt, q_cand, q_cor, q_vn, q_vI, q_vR, q_vL, q_kI, q_kR, q_kL, q_ckI, envN, argE, List.flatMap_cons, List.flatMap_nil, Value.category, junk, oadd, osub, omul, oand, oor, oxor, odiv, orem, oshl, oshr, oushr, omax, omin]
      simp [rk_i, rk_b, rk_o, st1, kill, Value.category, rcv, nog, hn, p2, p3, fq_of e2, b2_0, zeq, zne]
      exact fun a b => Classical.byContradiction fun c => hr ⟨a, b, fun z y => c ⟨z, y⟩⟩
    · simp only [f_mkF, w_sI, w_sR, w_sL, w_sC, w_sk, w_sbr, w_sco, w_rV, w_rI, w_rR, w_rL, w_dI, w_sO, w_sq, w_si, w_pI, w_pZ, w_pR, w_pU, w_qI, w_qB, w_qZ, w_qU, w_qR, w_kV, q_icst, q_lcst, q_xR, q_ldI, q_ldR, q_ldL, q_bn, q_un, q_dv, q_fI, q_fR, q_aI, q_aR, q_aN, q_tn, q_cmp, q_cmz, q_cnt, q_ctt, q_cand, q_cor, q_vn, q_vI, q_vR, q_vL, q_kI, q_kR, q_kL, q_ckI, envN, argE, List.flatMap_cons, List.flatMap_nil, Value.category, junk, oadd, osub, omul, oand, oor, oxor, odiv, orem, oshl, oshr, oushr, omax, omin]
      simp [rk_i, rk_b, rk_o, st1, kill, Value.category, rcv, nog]
      exact hP1 hr
theorem e_x_pass0 {LW : Hp → Prop} {N : Nat} {h : Hp} (q : INV LW N h) (t kind to land month price signs lo hi : Int32) (hc : ¬ VP h t kind to land month price signs lo hi) : F_X10_passing [.ref 0, .int t, .int kind, .int to, .int land, .int month, .int price, .int signs, .int lo, .int hi] h = some (some (.int (-1)), h) := by
  have q0 := q.1
  have hn := q0.1
  have ek := q.2.1.1
  have hE : envN 13 [Value.ref 0, Value.int t, Value.int kind, Value.int to, Value.int land, Value.int month, Value.int price, Value.int signs, Value.int lo, Value.int hi] = [Value.ref 0, Value.int t, Value.int kind, Value.int to, Value.int land, Value.int month, Value.int price, Value.int signs, Value.int lo, Value.int hi, junk, junk, junk] := rfl
  rw [← fq_eq]
  unfold F_X10_passing
  refine f_mkE _ hE (by simp [argE, Value.category]) ?_
  by_cases c1 : (0 ≤ t ∧ t < h.2.1 166 2) ∧ (0 ≤ to ∧ to < h.2.1 166 1) ∧ (0 ≤ land ∧ land ≤ 5) ∧ (0 ≤ lo ∧ lo ≤ hi ∧ hi ≤ 2)
  · refine w_sq.mpr ((w_siF (by simp only [f_mkF, w_sI, w_sR, w_sL, w_sC, w_sk, w_sbr, w_sco, w_rV, w_rI, w_rR, w_rL, w_dI, w_sO, w_sq, w_si, w_pI, w_pZ, w_pR, w_pU, w_qI, w_qB, w_qZ, w_qU, w_qR, w_kV, q_icst, q_lcst, q_xR, q_ldI, q_ldR, q_ldL, q_bn, q_un, q_dv, q_fI, q_fR, q_aI, q_aR, q_aN, q_tn, q_cmp, q_cmz, q_cnt, q_ctt, q_cand, q_cor, q_vn, q_vI, q_vR, q_vL, q_kI, q_kR, q_kL, q_ckI, envN, argE, List.flatMap_cons, List.flatMap_nil, Value.category, junk, oadd, osub, omul, oand, oor, oxor, odiv, orem, oshl, oshr, oushr, omax, omin]; simp (disch := first | omega | simp) [rk_i, rk_b, rk_o, st1, kill, Value.category, rcv, nog, inI_b, nI_clamp, nI_ltI, nI_leI, nI_eq, nI_9, nI_6, nI_22, nI_12, nI_180, nI_add, nI_1, hn, ly0, fq_of (i_x_isThing q _), fq_of (i_x_isPerson q _), fq_of (e_x_isLand _ _), fq_of (e_x_isRange _ _ _), b2_0, zeq, zne, c1])).mpr (w_sk2.mpr ?_))
    by_cases c2 : (0 ≤ kind ∧ kind ≤ 7) ∧ (0 ≤ month ∧ month ≤ h.2.1 166 0) ∧ (0 ≤ signs ∧ signs ≤ 7)
    · refine w_sq.mpr ((w_siF (by simp only [f_mkF, w_sI, w_sR, w_sL, w_sC, w_sk, w_sbr, w_sco, w_rV, w_rI, w_rR, w_rL, w_dI, w_sO, w_sq, w_si, w_pI, w_pZ, w_pR, w_pU, w_qI, w_qB, w_qZ, w_qU, w_qR, w_kV, q_icst, q_lcst, q_xR, q_ldI, q_ldR, q_ldL, q_bn, q_un, q_dv, q_fI, q_fR, q_aI, q_aR, q_aN, q_tn, q_cmp, q_cmz, q_cnt, q_ctt, q_cand, q_cor, q_vn, q_vI, q_vR, q_vL, q_kI, q_kR, q_kL, q_ckI, envN, argE, List.flatMap_cons, List.flatMap_nil, Value.category, junk, oadd, osub, omul, oand, oor, oxor, odiv, orem, oshl, oshr, oushr, omax, omin]; simp (disch := first | omega | simp) [rk_i, rk_b, rk_o, st1, kill, Value.category, rcv, nog, inI_b, nI_clamp, nI_ltI, nI_leI, nI_eq, nI_9, nI_6, nI_22, nI_12, nI_180, nI_add, nI_1, hn, ly0, ek, fq_of (e_x_isWithin _ _ _ _), b2_0, zeq, zne, c2])).mpr (w_sk2.mpr ?_))
      have c3 : ¬ (0 ≤ price ∧ price ≤ (if kind = 0 then 1000000 else 0)) := fun z => hc ⟨c1.1, c2.1, c1.2.1, c1.2.2.1, c2.2.1, z, c2.2.2, c1.2.2.2⟩
      refine w_sq.mpr ((w_siT ?_).mpr ?_)
      · simp only [f_mkF, w_sI, w_sR, w_sL, w_sC, w_sk, w_sbr, w_sco, w_rV, w_rI, w_rR, w_rL, w_dI, w_sO, w_sq, w_si, w_pI, w_pZ, w_pR, w_pU, w_qI, w_qB, w_qZ, w_qU, w_qR, w_kV, q_icst, q_lcst, q_xR, q_ldI, q_ldR, q_ldL, q_bn, q_un, q_dv, q_fI, q_fR, q_aI, q_aR, q_aN, q_tn, q_cmp, q_cmz, q_cnt, q_ctt, q_cand, q_cor, q_vn, q_vI, q_vR, q_vL, q_kI, q_kR, q_kL, q_ckI, envN, argE, List.flatMap_cons, List.flatMap_nil, Value.category, junk, oadd, osub, omul, oand, oor, oxor, odiv, orem, oshl, oshr, oushr, omax, omin]
        simp [rk_i, rk_b, rk_o, st1, kill, Value.category, rcv, nog, fq_of (e_x_isWithin _ _ _ _), b2_0, zeq, zne]
        grind
      · simp only [f_mkF, w_sI, w_sR, w_sL, w_sC, w_sk, w_sbr, w_sco, w_rV, w_rI, w_rR, w_rL, w_dI, w_sO, w_sq, w_si, w_pI, w_pZ, w_pR, w_pU, w_qI, w_qB, w_qZ, w_qU, w_qR, w_kV, q_icst, q_lcst, q_xR, q_ldI, q_ldR, q_ldL, q_bn, q_un, q_dv, q_fI, q_fR, q_aI, q_aR, q_aN, q_tn, q_cmp, q_cmz, q_cnt, q_ctt, q_cand, q_cor, q_vn, q_vI, q_vR, q_vL, q_kI, q_kR, q_kL, q_ckI, envN, argE, List.flatMap_cons, List.flatMap_nil, Value.category, junk, oadd, osub, omul, oand, oor, oxor, odiv, orem, oshl, oshr, oushr, omax, omin]; simp [rk_i, rk_b, rk_o, st1, kill, Value.category, rcv, nog]
    · refine w_sq.mpr ((w_siT ?_).mpr ?_)
      · simp only [f_mkF, w_sI, w_sR, w_sL, w_sC, w_sk, w_sbr, w_sco, w_rV, w_rI, w_rR, w_rL, w_dI, w_sO, w_sq, w_si, w_pI, w_pZ, w_pR, w_pU, w_qI, w_qB, w_qZ, w_qU, w_qR, w_kV, q_icst, q_lcst, q_xR, q_ldI, q_ldR, q_ldL, q_bn, q_un, q_dv, q_fI, q_fR, q_aI, q_aR, q_aN, q_tn, q_cmp, q_cmz, q_cnt, q_ctt, q_cand, q_cor, q_vn, q_vI, q_vR, q_vL, q_kI, q_kR, q_kL, q_ckI, envN, argE, List.flatMap_cons, List.flatMap_nil, Value.category, junk, oadd, osub, omul, oand, oor, oxor, odiv, orem, oshl, oshr, oushr, omax, omin]
        simp [rk_i, rk_b, rk_o, st1, kill, Value.category, rcv, nog, hn, ly0, ek, fq_of (e_x_isWithin _ _ _ _), b2_0, zeq, zne]
        grind
      · simp only [f_mkF, w_sI, w_sR, w_sL, w_sC, w_sk, w_sbr, w_sco, w_rV, w_rI, w_rR, w_rL, w_dI, w_sO, w_sq, w_si, w_pI, w_pZ, w_pR, w_pU, w_qI, w_qB, w_qZ, w_qU, w_qR, w_kV, q_icst, q_lcst, q_xR, q_ldI, q_ldR, q_ldL, q_bn, q_un, q_dv, q_fI, q_fR, q_aI, q_aR, q_aN, q_tn, q_cmp, q_cmz, q_cnt, q_ctt, q_cand, q_cor, q_vn, q_vI, q_vR, q_vL, q_kI, q_kR, q_kL, q_ckI, envN, argE, List.flatMap_cons, List.flatMap_nil, Value.category, junk, oadd, osub, omul, oand, oor, oxor, odiv, orem, oshl, oshr, oushr, omax, omin]; simp [rk_i, rk_b, rk_o, st1, kill, Value.category, rcv, nog]
  · refine w_sq.mpr ((w_siT ?_).mpr ?_)
    · simp only [f_mkF, w_sI, w_sR, w_sL, w_sC, w_sk, w_sbr, w_sco, w_rV, w_rI, w_rR, w_rL, w_dI, w_sO, w_sq, w_si, w_pI, w_pZ, w_pR, w_pU, w_qI, w_qB, w_qZ, w_qU, w_qR, w_kV, q_icst, q_lcst, q_xR, q_ldI, q_ldR, q_ldL, q_bn, q_un, q_dv, q_fI, q_fR, q_aI, q_aR, q_aN, q_tn, q_cmp, q_cmz, q_cnt, q_ctt, q_cand, q_cor, q_vn, q_vI, q_vR, q_vL, q_kI, q_kR, q_kL, q_ckI, envN, argE, List.flatMap_cons, List.flatMap_nil, Value.category, junk, oadd, osub, omul, oand, oor, oxor, odiv, orem, oshl, oshr, oushr, omax, omin]
      simp [rk_i, rk_b, rk_o, st1, kill, Value.category, rcv, nog, hn, ly0, fq_of (i_x_isThing q _), fq_of (i_x_isPerson q _), fq_of (e_x_isLand _ _), fq_of (e_x_isRange _ _ _), b2_0, zeq, zne]
      grind
    · simp only [f_mkF, w_sI, w_sR, w_sL, w_sC, w_sk, w_sbr, w_sco, w_rV, w_rI, w_rR, w_rL, w_dI, w_sO, w_sq, w_si, w_pI, w_pZ, w_pR, w_pU, w_qI, w_qB, w_qZ, w_qU, w_qR, w_kV, q_icst, q_lcst, q_xR, q_ldI, q_ldR, q_ldL, q_bn, q_un, q_dv, q_fI, q_fR, q_aI, q_aR, q_aN, q_tn, q_cmp, q_cmz, q_cnt, q_ctt, q_cand, q_cor, q_vn, q_vI, q_vR, q_vL, q_kI, q_kR, q_kL, q_ckI, envN, argE, List.flatMap_cons, List.flatMap_nil, Value.category, junk, oadd, osub, omul, oand, oor, oxor, odiv, orem, oshl, oshr, oushr, omax, omin]; simp [rk_i, rk_b, rk_o, st1, kill, Value.category, rcv, nog]
theorem insR_row {R : Nat → Nat → Int32} {p i k : Nat} {new : Nat → Int32} : insR R p new i k = if i < p then R i k else if i = p then new k else R (i - 1) k := rfl
theorem le_lit {x : Int32} {M : Int32} {m : Nat} (hM : M.toInt = m) (h0 : 0 ≤ x) (h1 : x ≤ M) : 0 ≤ x.toInt ∧ x.toInt ≤ m := by
  have z1 := Int32.le_iff_toInt_le.mp h0
  have z2 := Int32.le_iff_toInt_le.mp h1
  have z4 : (0 : Int32).toInt = 0 := rfl
  omega
theorem g_passing : AG (INV LWc) F_X10_passing F_X11_passing 9 := by
  intro N h vs hl hn5 q
  match vs, hl with
  | [t', kind, to, land, month, price, signs, lo, hi], _ =>
    have hn := q.1.1
    have h24 := q.2.2.2.2.2.2.1.2.1.2
    by_cases hc : VP h t' kind to land month price signs lo hi
    · obtain ⟨t, ht, rfl⟩ := th_num q hc.1.1 hc.1.2
      obtain ⟨ra, n, t1, t2, t3, t4, t5⟩ := th_of q ht
      have n20 := t1.2.1.2
      by_cases hr : n < 20 ∧ to ≠ frm (mrow h t) (h.2.1 170 t) (plc (mrow h t) month n) ∧ (plc (mrow h t) month n < n → mrow h t (plc (mrow h t) month n) 1 ≠ to)
      · have hpl := plc_le (mrow h t) month n
        have hX := e_x_pass q ht t1 kind to land month price signs lo hi hc (fun r h' => r = some (.int (nI (plc (mrow h t) month n))) ∧ h'.1 = 212 ∧ (∀ i, i < 20 → h'.2.2 (29 + 22 * t) i = some (insA ra n (plc (mrow h t) month n) i)) ∧ (∀ a k, a ≠ 29 + 22 * t → h'.2.2 a k = h.2.2 a k) ∧ h'.2.1 (28 + 22 * t) 1 = nI (n + 1) ∧ (∀ k, k < 8 → h'.2.1 (ra n) k = r8 kind to land month price signs lo hi k) ∧ (∀ a j, a ≠ ra n → ¬ (a = 28 + 22 * t ∧ j = 1) → h'.2.1 a j = h.2.1 a j)) (fun z => absurd hr z) (fun _ h' z1 z2 z3 z4 z5 z6 => ⟨rfl, z1, z2, z3, z4, z5, z6⟩)
        obtain ⟨r, h1, e1, rfl, x1, x2, x3, x4, x5, x6⟩ := hX
        obtain ⟨u1, u2, u3, u4⟩ := t1.2.2.1 n hr.1
        have hm1 : mrow h1 t = mrow h t := funext fun i => funext fun k => x6 _ _ (by omega) (by omega)
        have ip1 : Ip h1 := Ip_r ht (x1.trans hn.symm) x3 q.1
        have e166 : ∀ k, h1.2.1 166 k = h.2.1 166 k := fun k => x6 166 k (by omega) (by omega)
        have vp1 : VP h1 (nI t) kind to land month price signs lo hi := by
          unfold VP
          rw [e166 0, e166 1, e166 2]
          exact hc
        have e172 : h1.2.1 172 t = nI n := (x6 172 t (by omega) (by omega)).trans t2
        have e170 : h1.2.1 170 t = h.2.1 170 t := x6 170 t (by omega) (by omega)
        have hY := e_m_pass2 ip1 ht hr.1 e172 kind to land month price signs lo hi vp1 (by rw [hm1]; exact t5) (fun r h' => r = some (.int (nI (plc (mrow h t) month n))) ∧ h'.1 = h1.1 ∧ h'.2.2 = h1.2.2 ∧ h'.2.1 172 t = nI (n + 1) ∧ (∀ i k, i ≤ n → k < 8 → mrow h' t i k = insR (mrow h t) (plc (mrow h t) month n) (r8 kind to land month price signs lo hi) i k) ∧ (∀ a j, ¬ (173 ≤ a ∧ a < 181 ∧ 22 * t ≤ j ∧ j < 22 * t + 22) → ¬ (a = 172 ∧ j = t) → h'.2.1 a j = h1.2.1 a j)) (fun z => by rw [hm1, e170] at z; exact absurd hr.2 z) (fun _ h' z1 z2 z3 z4 z5 => by rw [hm1] at z4 ⊢; exact ⟨rfl, z1, z2, z3, z4, z5⟩)
        obtain ⟨r, h2, e2, rfl, y1, y2, y3, y4, y5⟩ := hY
        refine ⟨nI (plc (mrow h t) month n), h1, h2, e1, x1, e2, ?_⟩
        have lo2 : ∀ i, i < plc (mrow h t) month n → mrow h t i 3 ≤ month := fun i hi => plc_lo2 t5 hi
        have hi2 : ∀ i, plc (mrow h t) month n ≤ i → i < n → month < mrow h t i 3 := fun i z1 z2 => plc_hi z1 z2
        generalize plc (mrow h t) month n = p at *
        have sm : ∀ a j, a ≠ ra n → ¬ (a = 28 + 22 * t ∧ j = 1) → ¬ (173 ≤ a ∧ a < 181 ∧ 22 * t ≤ j ∧ j < 22 * t + 22) → ¬ (a = 172 ∧ j = t) → h2.2.1 a j = h.2.1 a j := fun a j z1 z2 z3 z4 => (y5 a j z3 z4).trans (x6 a j z1 z2)
        obtain ⟨q0, q1, q2, q3, q4, q5, q6, q7, q8, ⟨q9, q9p⟩, q10⟩ := q
        have rr : ∀ a k, a ≠ 29 + 22 * t → h2.2.2 a k = h.2.2 a k := fun a k z => by rw [y2]; exact x3 a k z
        have sS : ∀ S : Nat → Nat → Prop, (∀ a k, S a k → ¬ (30 ≤ a ∧ a ≤ 115) ∧ ¬ (a = 28 + 22 * t ∧ k = 1) ∧ ¬ (172 ≤ a ∧ a ≤ 180)) → same S h h2 := fun S hS a k s => by
          have := hS a k s
          exact sm a k (by omega) (by omega) (by omega) (by omega)
        have hnp : h2.2.1 166 1 = h.2.1 166 1 := sm 166 1 (by omega) (by omega) (by omega) (by omega)
        have hnw : h2.2.1 166 0 = h.2.1 166 0 := sm 166 0 (by omega) (by omega) (by omega) (by omega)
        have hnt : h2.2.1 166 2 = h.2.1 166 2 := sm 166 2 (by omega) (by omega) (by omega) (by omega)
        obtain ⟨v1, v2, v3, v4, v5, v6, v7, v8⟩ := hc
        have hnew : rowV (h.2.1 166 1).toInt (h.2.1 166 0).toInt (r8 kind to land month price signs lo hi) := by
          have a1 := le_lit (m := 7) rfl v2.1 v2.2
          have a3 := le_lit (m := 5) rfl v4.1 v4.2
          have a7 := le_lit (m := 7) rfl v7.1 v7.2
          have b1 := Int32.le_iff_toInt_le.mp v3.1
          have b2 := Int32.lt_iff_toInt_lt.mp v3.2
          have c1 := Int32.le_iff_toInt_le.mp v5.1
          have c2 := Int32.le_iff_toInt_le.mp v5.2
          have d1 := Int32.le_iff_toInt_le.mp v8.1
          have d2 := Int32.le_iff_toInt_le.mp v8.2.1
          have d3 := Int32.le_iff_toInt_le.mp v8.2.2
          have z0 : (0 : Int32).toInt = 0 := rfl
          have z2 : (2 : Int32).toInt = 2 := rfl
          have f1 := Int32.le_iff_toInt_le.mp v6.1
          have f2 := Int32.le_iff_toInt_le.mp v6.2
          have zM : (1000000 : Int32).toInt = 1000000 := rfl
          have f3 : price.toInt ≤ 1000000 ∧ (kind.toInt ≠ 0 → price.toInt = 0) := by
            by_cases hk : kind = 0
            · rw [if_pos hk] at f2
              exact ⟨by omega, fun z => absurd (by rw [hk]; rfl) z⟩
            · rw [if_neg hk] at f2
              exact ⟨by omega, fun _ => by omega⟩
          refine ⟨⟨a1.1, a1.2⟩, ⟨by show 0 ≤ to.toInt; omega, b2⟩, ⟨a3.1, a3.2⟩, ⟨by show 0 ≤ month.toInt; omega, c2⟩, ⟨by show 0 ≤ price.toInt; omega, f3.1⟩, f3.2, ⟨a7.1, a7.2⟩, ⟨by show 0 ≤ lo.toInt; omega, d2, by show hi.toInt ≤ 2; omega⟩⟩
        have hpm : month.toInt = month.toInt := rfl
        refine ⟨Ip_r ht (y1.trans (x1.trans hn.symm)) rr q0, Iclk_c (sS _ ?_) q1, Iper_c (sS _ ?_) q2, Isen_c (sS _ ?_) q3, Iroa_c (sS _ ?_) q4, Itap_c (sS _ ?_) q5, ?ithi, ?irow, ?icla, ⟨Ilaw_c (sS _ ?_) (fun l => rr 4 l (by omega)) q9, ?ipai⟩, ?icou⟩
        case ithi =>
          refine ⟨by rw [sm 0 14 (by omega) (by omega) (by omega) (by omega), hnt]; exact q6.1, by rw [hnt]; exact q6.2.1, fun s hs => ?_⟩
          obtain ⟨⟨c1, c2, c3, c4⟩, c5, c6, c7⟩ := q6.2.2 s hs
          have e2 : h2.2.1 (28 + 22 * s) 2 = h.2.1 (28 + 22 * s) 2 := sm _ _ (by omega) (by omega) (by omega) (by omega)
          have e3 : h2.2.1 (28 + 22 * s) 3 = h.2.1 (28 + 22 * s) 3 := sm _ _ (by omega) (by omega) (by omega) (by omega)
          have e4 : h2.2.1 (28 + 22 * s) 4 = h.2.1 (28 + 22 * s) 4 := sm _ _ (by omega) (by omega) (by omega) (by omega)
          have e69 : h2.2.1 169 s = h.2.1 169 s := sm _ _ (by omega) (by omega) (by omega) (by omega)
          have e70 : h2.2.1 170 s = h.2.1 170 s := sm _ _ (by omega) (by omega) (by omega) (by omega)
          have e71 : h2.2.1 171 s = h.2.1 171 s := sm _ _ (by omega) (by omega) (by omega) (by omega)
          rw [hnt, hnp, e2, e3, e4, e69, e70, e71]
          by_cases hst : s = t
          · subst hst
            have e1 : h2.2.1 (28 + 22 * s) 1 = nI (n + 1) := (y5 _ _ (by omega) (by omega)).trans x4
            rw [e1, y3]
            refine ⟨⟨rfl, c2, c3, c4⟩, by rw [nI_toInt (by omega)]; omega, fun z => ?_, c7⟩
            have := Int32.lt_iff_toInt_lt.mp v1.2
            rw [nI_toInt (by omega)] at this
            omega
          · have e1 : h2.2.1 (28 + 22 * s) 1 = h.2.1 (28 + 22 * s) 1 := sm _ _ (by omega) (by omega) (by omega) (by omega)
            have e72 : h2.2.1 172 s = h.2.1 172 s := sm _ _ (by omega) (by omega) (by omega) (by omega)
            rw [e1, e72]
            exact ⟨⟨c1, c2, c3, c4⟩, c5, c6, c7⟩
        case irow =>
          intro s hs
          by_cases hst : s = t
          · subst hst
            have hins : ∀ i, i < 20 → 30 + 22 * s ≤ insA ra n p i ∧ insA ra n p i < 50 + 22 * s := by
              intro i hi
              have g : ∀ j, j < 20 → 30 + 22 * s ≤ ra j ∧ ra j < 50 + 22 * s := fun j hj => by
                have := t1.2.2.1 j hj
                omega
              unfold insA
              split
              · exact g i hi
              · split
                · exact g n hr.1
                · split
                  · exact g (i - 1) (by omega)
                  · exact g i hi
            refine ⟨insA ra n p, fun i hi => ⟨by rw [y2]; exact x2 i hi, hins i hi⟩, fun i j hi hj e => ?_, fun i hi20 hix => ?_⟩
            · have g : ∀ a b, a < 20 → b < 20 → ra a = ra b → a = b := t3
              unfold insA at e
              split at e
              · split at e
                · exact g i j hi hj e
                · split at e
                  · have := g i n hi hr.1 e; omega
                  · split at e
                    · have := g i (j - 1) hi (by omega) e; omega
                    · exact g i j hi hj e
              · split at e
                · split at e
                  · have := g n j hr.1 hj e; omega
                  · split at e
                    · omega
                    · split at e
                      · have := g n (j - 1) hr.1 (by omega) e; omega
                      · have := g n j hr.1 hj e; omega
                · split at e
                  · split at e
                    · have := g (i - 1) j (by omega) hj e; omega
                    · split at e
                      · have := g (i - 1) n (by omega) hr.1 e; omega
                      · split at e
                        · have := g (i - 1) (j - 1) (by omega) (by omega) e; omega
                        · have := g (i - 1) j (by omega) hj e; omega
                  · split at e
                    · exact g i j hi hj e
                    · split at e
                      · have := g i n hi hr.1 e; omega
                      · split at e
                        · have := g i (j - 1) hi (by omega) e; omega
                        · exact g i j hi hj e
            · rw [y3, nI_toInt (by omega)] at hix ⊢
              have hin : i ≤ n := by omega
              have hrow : ∀ j, j < n → ∀ k, k < 8 → h2.2.1 (ra j) k = mrow h s j k := fun j hj k hk => by
                have g := t1.2.2.1 j (by omega)
                have g2 : ra j ≠ ra n := fun z => by have := t3 j n (by omega) hr.1 z; omega
                rw [sm (ra j) k g2 (by omega) (by omega) (by omega)]
                exact t1.2.2.2 j k hj hk
              have hv : rowV (h.2.1 166 1).toInt (h.2.1 166 0).toInt (mrow h2 s i) := by
                refine rowV_c (r := insR (mrow h s) p (r8 kind to land month price signs lo hi) i) (fun k hk => y4 i k hin hk) ?_
                by_cases z1 : i < p
                · exact rowV_c (fun k _ => by rw [insR_row, if_pos z1]) (t4 i (by omega))
                · by_cases z2 : i = p
                  · exact rowV_c (fun k _ => by rw [insR_row, if_neg z1, if_pos z2]) hnew
                  · exact rowV_c (fun k _ => by rw [insR_row, if_neg z1, if_neg z2]) (t4 (i - 1) (by omega))
              refine ⟨fun k hk => ?_, by rw [hnp, hnw]; exact hv, fun hi3 => ?_⟩
              · rw [y4 i k hin hk, insR_row]
                unfold insA
                by_cases z1 : i < p
                · rw [if_pos z1, if_pos z1]; exact hrow i (by omega) k hk
                · by_cases z2 : i = p
                  · rw [if_neg z1, if_pos z2, if_neg z1, if_pos z2, y5 _ _ (by omega) (by omega)]
                    exact x5 k hk
                  · rw [if_neg z1, if_neg z2, if_pos hin, if_neg z1, if_neg z2]
                    exact hrow (i - 1) (by omega) k hk
              · rw [y4 i 3 hin (by omega), y4 (i + 1) 3 (by omega) (by omega), insR_row, insR_row]
                by_cases z1 : i < p
                · rw [if_pos z1]
                  have g1 := Int32.le_iff_toInt_le.mp (lo2 i z1)
                  by_cases z3 : i + 1 < p
                  · rw [if_pos z3]; exact t5 i (by omega)
                  · rw [if_neg z3, if_pos (by omega)]
                    exact g1
                · rw [if_neg z1, if_neg (show ¬ i + 1 < p by omega), if_neg (show ¬ i + 1 = p by omega), Nat.add_sub_cancel]
                  by_cases z2 : i = p
                  · rw [if_pos z2]
                    have g1 := Int32.lt_iff_toInt_lt.mp (hi2 i (by omega) (by omega))
                    show month.toInt ≤ _
                    omega
                  · rw [if_neg z2]
                    have := t5 (i - 1) (by omega)
                    rw [show i - 1 + 1 = i by omega] at this
                    exact this
          · obtain ⟨rb, b1, b2, b3⟩ := q7 s hs
            refine ⟨rb, fun i hi => by rw [rr (29 + 22 * s) i (by omega)]; exact b1 i hi, b2, fun i hi20 hi => ?_⟩
            have e72 : h2.2.1 172 s = h.2.1 172 s := sm _ _ (by omega) (by omega) (by omega) (by omega)
            rw [e72] at hi ⊢
            have z3 := ((q6.2.2 s hs).2.1).2
            have mr : ∀ i k, i < 20 → k < 8 → mrow h2 s i k = mrow h s i k := fun i k hi hk => sm _ _ (by omega) (by omega) (by omega) (by omega)
            obtain ⟨r1, r2, r3⟩ := b3 i hi20 hi
            refine ⟨fun k hk => ?_, ?_, fun hi2 => ?_⟩
            · have := b1 i hi20
              rw [mr i k hi20 hk, ← r1 k hk]
              exact sm _ _ (by omega) (by omega) (by omega) (by omega)
            · rw [hnp, hnw]
              exact rowV_c (fun k hk => mr i k hi20 hk) r2
            · rw [mr i 3 hi20 (by omega), mr (i + 1) 3 (by omega) (by omega)]
              exact r3 hi2
        case icla =>
          obtain ⟨⟨sa, a1, a2, a3⟩, b, c⟩ := q8
          have e4 : ∀ l, h2.2.2 4 l = h.2.2 4 l := fun l => rr 4 l (by omega)
          refine ⟨⟨sa, by rw [rr 0 11 (by omega)]; exact a1, a2, fun l hl => by rw [e4]; exact a3 l hl⟩, fun l hl => ?_, fun l m hl hm => by rw [e4, e4]; exact c l m hl hm⟩
          obtain ⟨la, d1, d2, d3, d4⟩ := b l hl
          refine ⟨la, by rw [e4]; exact d1, d2, ?_⟩
          rw [sm la 5 (by unfold lawA at d2; omega) (by unfold lawA at d2; omega) (by unfold lawA at d2; omega) (by unfold lawA at d2; omega), sm 190 l (by omega) (by omega) (by omega) (by omega)]
          exact ⟨d3, d4⟩
        case ipai =>
          unfold Ipai at *
          rw [rr 157 3 (by omega), rr 157 4 (by omega)]
          exact q9p
        case icou => exact Icou_c (sS _ (fun a k z => by unfold Scou at z; omega)) q10
        all_goals (intro a k z; simp only [Sclk, Sper, Ssen, Sroa, Stap, Sthi, Srow, Slaw, Scou] at z; omega)
      · refine ⟨-1, h, h, ?_, hn, ?_, INV_up q⟩
        · rw [← fq_eq]
          exact e_x_pass q ht t1 kind to land month price signs lo hi hc _ (fun _ => ⟨rfl, rfl⟩) (fun z => absurd z hr)
        · by_cases h20 : n = 20
          · exact e_m_pass1 q.1 ht n20 t2 kind to land month price signs lo hi hc h20
          · rw [← fq_eq]
            refine e_m_pass2 q.1 ht (by omega) t2 kind to land month price signs lo hi hc t5 _ (fun _ => ⟨rfl, rfl⟩) (fun z => absurd ⟨by omega, z⟩ hr)
    · exact ⟨-1, h, h, e_x_pass0 q t' kind to land month price signs lo hi hc, hn, e_m_pass0 q.1 h24 t' kind to land month price signs lo hi hc, INV_up q⟩
