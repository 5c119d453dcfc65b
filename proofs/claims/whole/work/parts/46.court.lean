/-! the class's court: from passing to passing -/
def S9 (a _k : Nat) : Prop := a = 149 ∨ a = 150
theorem S9_SX {a k : Nat} (h : S9 a k) : SX a k := by unfold S9 at h; unfold SX; omega
theorem ckT_k : ∀ k, k < 8 → inI (nI k) 8 = true ∧ ckT k = (if klt k = 9 then -1 else nI (klt k)) ∧ (klt k = 9 ∨ klt k < 8) := by decide +kernel
theorem CX.kx {w : Wd} {T : Nat} {ra : Nat → Nat} {h : Hp} (q : CX w T ra h) {i : Nat} (hi : i < W_n w) : W_R w i 0 = nI (kd w i) ∧ kd w i < 8 := by
  have v := (q.2.2.2.2.2.2.2.2.2.2.2.1 i hi).1
  have := clampI v.1
  exact ⟨nI_toI v.1, by unfold kd; omega⟩
/-- the law of a land -/
theorem CX.lw {w : Wd} {T : Nat} {ra : Nat → Nat} {h : Hp} (q : CX w T ra h) {l : Nat} (hl : l < 6) : ∃ la, h.2.2 4 l = some la ∧ lawA la ∧ LX h la (W_D w l) ∧ WD (W_D w l) ∧ la < 212 ∧ (LY la).1 = 3 := by
  obtain ⟨la, z1, z2, z3⟩ := q.2.2.2.2.2.2.2.2.1 l hl
  obtain ⟨-, ⟨y0, -⟩, yb⟩ := law_p q.1 z2
  exact ⟨la, z1, z2, z3, q.2.2.2.2.2.2.2.2.2.2.2.2.2.2.2.2.2.2 l hl, by omega, y0⟩
theorem CX.wv {w : Wd} {T : Nat} {ra : Nat → Nat} {h : Hp} (q : CX w T ra h) : WV w := q.2.2.2.2.2.2.2.2.2
theorem m1_ne {K : Nat} (hK : K < 1000) : ¬ nI K = -1 := fun z => by
  have z2 := congrArg Int32.toInt z
  rw [nI_toInt (by omega)] at z2
  have z3 : Int32.toInt (-1) = -1 := rfl
  omega
theorem b2_eq {c d : Prop} [Decidable c] [Decidable d] (e : c ↔ d) : b2 c = b2 d := by
  unfold b2
  by_cases h : c
  · rw [if_pos h, if_pos (e.mp h)]
  · rw [if_neg h, if_neg fun z => h (e.mpr z)]
theorem b2_t {c : Prop} [Decidable c] (h : c) : b2 c = 1 := if_pos h
theorem b2_f {c : Prop} [Decidable c] (h : ¬ c) : b2 c = 0 := if_neg h
theorem x_gives {w : Wd} {T : Nat} {ra : Nat → Nat} {h : Hp} (q : CX w T ra h) {sp : Nat} (hs1 : h.2.1 147 14 = nI sp) (hs2 : sp < 64) {i left : Nat} (hi : i < W_n w) (hl : left ≤ i) (mind : Int32) : fq F_X1_givesTitle [.ref 147, .int (nI i), .int (nI left), .int mind] h fun r h' => r = some (.int (b2 (klt (kd w i) < 8 ∧ gvs w sp i left mind (kd w i) (klt (kd w i)) = true))) ∧ Fr S9 h h' := by
  obtain ⟨hn, a1, a2, a3, a4, a5, a6, a7⟩ := q.hd
  obtain ⟨i20, b1, b2', b3, b4⟩ := q.row hi
  obtain ⟨k1, k2⟩ := q.kx hi
  obtain ⟨k3, k4, k5⟩ := ckT_k _ k2
  have b40 := b4 0 (by omega)
  rw [k1] at b40
  have hv := frm_ok q.wv (i := left) (by omega)
  have ea := x_asked q (kind := kd w i) (ow := frm (W_R w) (W_fo w) left) hi (by omega) hv
  have hl6 := askd_lt q.wv (kind := kd w i) (ow := frm (W_R w) (W_fo w) left) hi
  have g1 : h.2.2 147 1 = some 4 := q.1.2.1.at 64 rfl
  have g3 : h.2.2 147 3 = some 148 := q.1.2.1.at 66 rfl
  unfold gvs
  generalize askd w i (kd w i) (frm (W_R w) (W_fo w) left) = l at *
  obtain ⟨la, d1, d2, d3, d4, d5, d6⟩ := q.lw hl6
  have ms := (mskA sp hs2 l hl6).1
  generalize hK : klt (kd w i) = K at *
  generalize kd w i = kk at *
  have hE : envN 8 [Value.ref 147, Value.int (nI i), Value.int (nI left), Value.int mind] = [Value.ref 147, Value.int (nI i), Value.int (nI left), Value.int mind, junk, junk, junk, junk] := rfl
  unfold F_X1_givesTitle
  refine f_mkE _ hE (by simp [argE, Value.category]) ?_
  (refine w_fz fun B hB C hC => ?_); (simp only [f_mkF, w_sI, w_sR, w_sL, w_sC, w_sk, w_sbr, w_sco, w_rV, w_rI, w_rR, w_rL, w_dI, w_sO, w_sq, w_si, w_pI, w_pZ, w_pR, w_pU, w_qI, w_qB, w_qZ, w_qU, w_qR, w_kV, q_icst, q_lcst, q_xR, q_ldI, q_ldR, q_ldL, q_bn, q_un, q_dv, q_fI, q_fR, q_aI, q_aR, q_aN, q_tn, q_cmp, q_cmz, q_cnt, q_ctt, q_cand, q_cor, q_vn, q_vI, q_vR, q_vL, q_kI, q_kR, q_kL, q_ckI, envN, argE, List.flatMap_cons, List.flatMap_nil, Value.category, junk, oadd, osub, omul, oand, oor, oxor, odiv, orem, oshl, oshr, oushr, omax, omin]); (simp (disch := first | omega | simp) [rk_i, rk_b, rk_o, st1, kill, Value.category, rcv, nog, inI_b, nI_clamp, nI_ltI, nI_leI, nI_eq, nI_9, nI_6, nI_22, nI_12, nI_180, nI_add, nI_1, hn, ly147, a1, a2, a3, a4, a5, a6, b1, b2', b3, b40, i20]); (subst hB hC)
  by_cases hK9 : K = 9
  · rw [if_pos hK9] at k4
    (refine w_fz fun B hB C hC => ?_); (simp only [f_mkF, w_sI, w_sR, w_sL, w_sC, w_sk, w_sbr, w_sco, w_rV, w_rI, w_rR, w_rL, w_dI, w_sO, w_sq, w_si, w_pI, w_pZ, w_pR, w_pU, w_qI, w_qB, w_qZ, w_qU, w_qR, w_kV, q_icst, q_lcst, q_xR, q_ldI, q_ldR, q_ldL, q_bn, q_un, q_dv, q_fI, q_fR, q_aI, q_aR, q_aN, q_tn, q_cmp, q_cmz, q_cnt, q_ctt, q_cand, q_cor, q_vn, q_vI, q_vR, q_vL, q_kI, q_kR, q_kL, q_ckI, envN, argE, List.flatMap_cons, List.flatMap_nil, Value.category, junk, oadd, osub, omul, oand, oor, oxor, odiv, orem, oshl, oshr, oushr, omax, omin]); (simp (disch := first | omega | simp) [rk_i, rk_b, rk_o, st1, kill, Value.category, rcv, nog, inI_b, nI_clamp, nI_ltI, nI_leI, nI_eq, nI_9, nI_6, nI_22, nI_12, nI_180, nI_add, nI_1, k2, k4]); (subst hB hC)
    refine w_sq.mpr ((w_siT (by simp only [f_mkF, w_sI, w_sR, w_sL, w_sC, w_sk, w_sbr, w_sco, w_rV, w_rI, w_rR, w_rL, w_dI, w_sO, w_sq, w_si, w_pI, w_pZ, w_pR, w_pU, w_qI, w_qB, w_qZ, w_qU, w_qR, w_kV, q_icst, q_lcst, q_xR, q_ldI, q_ldR, q_ldL, q_bn, q_un, q_dv, q_fI, q_fR, q_aI, q_aR, q_aN, q_tn, q_cmp, q_cmz, q_cnt, q_ctt, q_cand, q_cor, q_vn, q_vI, q_vR, q_vL, q_kI, q_kR, q_kL, q_ckI, envN, argE, List.flatMap_cons, List.flatMap_nil, Value.category, junk, oadd, osub, omul, oand, oor, oxor, odiv, orem, oshl, oshr, oushr, omax, omin]; simp (disch := first | omega | simp) [rk_i, rk_b, rk_o, st1, kill, Value.category, rcv, nog, inI_b, nI_clamp, nI_ltI, nI_leI, nI_eq, nI_9, nI_6, nI_22, nI_12, nI_180, nI_add, nI_1])).mpr ?_)
    simp only [f_mkF, w_sI, w_sR, w_sL, w_sC, w_sk, w_sbr, w_sco, w_rV, w_rI, w_rR, w_rL, w_dI, w_sO, w_sq, w_si, w_pI, w_pZ, w_pR, w_pU, w_qI, w_qB, w_qZ, w_qU, w_qR, w_kV, q_icst, q_lcst, q_xR, q_ldI, q_ldR, q_ldL, q_bn, q_un, q_dv, q_fI, q_fR, q_aI, q_aR, q_aN, q_tn, q_cmp, q_cmz, q_cnt, q_ctt, q_cand, q_cor, q_vn, q_vI, q_vR, q_vL, q_kI, q_kR, q_kL, q_ckI, envN, argE, List.flatMap_cons, List.flatMap_nil, Value.category, junk, oadd, osub, omul, oand, oor, oxor, odiv, orem, oshl, oshr, oushr, omax, omin]
    simp [rk_i, rk_b, rk_o, st1, kill, Value.category, rcv, nog, b2, hK9, Fr.refl]
  · rw [if_neg hK9] at k4
    have hK8 : K < 8 := by omega
    have eh := x_has q.1 d2 d4 d3 (lt := K) hK8
    have hKm := m1_ne (K := K) (by omega)
    have hK0 : nI K = 0 ↔ K = 0 := by rw [← nI_0, nI_eq (by omega) (by omega)]
    (refine w_fz fun B hB C hC => ?_); (simp only [f_mkF, w_sI, w_sR, w_sL, w_sC, w_sk, w_sbr, w_sco, w_rV, w_rI, w_rR, w_rL, w_dI, w_sO, w_sq, w_si, w_pI, w_pZ, w_pR, w_pU, w_qI, w_qB, w_qZ, w_qU, w_qR, w_kV, q_icst, q_lcst, q_xR, q_ldI, q_ldR, q_ldL, q_bn, q_un, q_dv, q_fI, q_fR, q_aI, q_aR, q_aN, q_tn, q_cmp, q_cmz, q_cnt, q_ctt, q_cand, q_cor, q_vn, q_vI, q_vR, q_vL, q_kI, q_kR, q_kL, q_ckI, envN, argE, List.flatMap_cons, List.flatMap_nil, Value.category, junk, oadd, osub, omul, oand, oor, oxor, odiv, orem, oshl, oshr, oushr, omax, omin]); (simp (disch := first | omega | simp) [rk_i, rk_b, rk_o, st1, kill, Value.category, rcv, nog, inI_b, nI_clamp, nI_ltI, nI_leI, nI_eq, nI_9, nI_6, nI_22, nI_12, nI_180, nI_add, nI_1, k2, k4]); (subst hB hC)
    refine w_sq.mpr ((w_siF (by simp only [f_mkF, w_sI, w_sR, w_sL, w_sC, w_sk, w_sbr, w_sco, w_rV, w_rI, w_rR, w_rL, w_dI, w_sO, w_sq, w_si, w_pI, w_pZ, w_pR, w_pU, w_qI, w_qB, w_qZ, w_qU, w_qR, w_kV, q_icst, q_lcst, q_xR, q_ldI, q_ldR, q_ldL, q_bn, q_un, q_dv, q_fI, q_fR, q_aI, q_aR, q_aN, q_tn, q_cmp, q_cmz, q_cnt, q_ctt, q_cand, q_cor, q_vn, q_vI, q_vR, q_vL, q_kI, q_kR, q_kL, q_ckI, envN, argE, List.flatMap_cons, List.flatMap_nil, Value.category, junk, oadd, osub, omul, oand, oor, oxor, odiv, orem, oshl, oshr, oushr, omax, omin]; simp (disch := first | omega | simp) [rk_i, rk_b, rk_o, st1, kill, Value.category, rcv, nog, inI_b, nI_clamp, nI_ltI, nI_leI, nI_eq, nI_9, nI_6, nI_22, nI_12, nI_180, nI_add, nI_1, hKm])).mpr (w_sk2.mpr ?_))
    (refine w_fz fun B hB C hC => ?_); (simp only [f_mkF, w_sI, w_sR, w_sL, w_sC, w_sk, w_sbr, w_sco, w_rV, w_rI, w_rR, w_rL, w_dI, w_sO, w_sq, w_si, w_pI, w_pZ, w_pR, w_pU, w_qI, w_qB, w_qZ, w_qU, w_qR, w_kV, q_icst, q_lcst, q_xR, q_ldI, q_ldR, q_ldL, q_bn, q_un, q_dv, q_fI, q_fR, q_aI, q_aR, q_aN, q_tn, q_cmp, q_cmz, q_cnt, q_ctt, q_cand, q_cor, q_vn, q_vI, q_vR, q_vL, q_kI, q_kR, q_kL, q_ckI, envN, argE, List.flatMap_cons, List.flatMap_nil, Value.category, junk, oadd, osub, omul, oand, oor, oxor, odiv, orem, oshl, oshr, oushr, omax, omin]); (simp (disch := first | omega | simp) [rk_i, rk_b, rk_o, st1, kill, Value.category, rcv, nog, inI_b, nI_clamp, nI_ltI, nI_leI, nI_eq, nI_9, nI_6, nI_22, nI_12, nI_180, nI_add, nI_1, hn, ly147, a1, a2, a4, fq_of ea, fq_of (q.fw (i := left) (by omega))]); (subst hB hC)
    refine w_sqI (b2 ((decide (K = 0) && sp.testBit l) = true)) ?_ rfl ?_
    · simp only [f_mkF, w_sI, w_sR, w_sL, w_sC, w_sk, w_sbr, w_sco, w_rV, w_rI, w_rR, w_rL, w_dI, w_sO, w_sq, w_si, w_pI, w_pZ, w_pR, w_pU, w_qI, w_qB, w_qZ, w_qU, w_qR, w_kV, q_icst, q_lcst, q_xR, q_ldI, q_ldR, q_ldL, q_bn, q_un, q_dv, q_fI, q_fR, q_aI, q_aR, q_aN, q_tn, q_cmp, q_cmz, q_cnt, q_ctt, q_cand, q_cor, q_vn, q_vI, q_vR, q_vL, q_kI, q_kR, q_kL, q_ckI, envN, argE, List.flatMap_cons, List.flatMap_nil, Value.category, junk, oadd, osub, omul, oand, oor, oxor, odiv, orem, oshl, omax, omin]
      simp [hn, ly147, hs1]
      rw [show oushr (nI sp) (nI l) &&& 1 = _ from ms]
      simp only [hK0]
      by_cases a : K = 0 <;> cases b : sp.testBit l <;> simp [a, b2]
    cases hst : (decide (K = 0) && sp.testBit l) with
    | true =>
      refine w_sq.mpr ((w_siT (by simp only [f_mkF, w_sI, w_sR, w_sL, w_sC, w_sk, w_sbr, w_sco, w_rV, w_rI, w_rR, w_rL, w_dI, w_sO, w_sq, w_si, w_pI, w_pZ, w_pR, w_pU, w_qI, w_qB, w_qZ, w_qU, w_qR, w_kV, q_icst, q_lcst, q_xR, q_ldI, q_ldR, q_ldL, q_bn, q_un, q_dv, q_fI, q_fR, q_aI, q_aR, q_aN, q_tn, q_cmp, q_cmz, q_cnt, q_ctt, q_cand, q_cor, q_vn, q_vI, q_vR, q_vL, q_kI, q_kR, q_kL, q_ckI, envN, argE, List.flatMap_cons, List.flatMap_nil, Value.category, junk, oadd, osub, omul, oand, oor, oxor, odiv, orem, oshl, oshr, oushr, omax, omin]; simp (disch := first | omega | simp) [rk_i, rk_b, rk_o, st1, kill, Value.category, rcv, nog, inI_b, nI_clamp, nI_ltI, nI_leI, nI_eq, nI_9, nI_6, nI_22, nI_12, nI_180, nI_add, nI_1, b2_0, zne])).mpr ?_)
      simp only [f_mkF, w_sI, w_sR, w_sL, w_sC, w_sk, w_sbr, w_sco, w_rV, w_rI, w_rR, w_rL, w_dI, w_sO, w_sq, w_si, w_pI, w_pZ, w_pR, w_pU, w_qI, w_qB, w_qZ, w_qU, w_qR, w_kV, q_icst, q_lcst, q_xR, q_ldI, q_ldR, q_ldL, q_bn, q_un, q_dv, q_fI, q_fR, q_aI, q_aR, q_aN, q_tn, q_cmp, q_cmz, q_cnt, q_ctt, q_cand, q_cor, q_vn, q_vI, q_vR, q_vL, q_kI, q_kR, q_kL, q_ckI, envN, argE, List.flatMap_cons, List.flatMap_nil, Value.category, junk, oadd, osub, omul, oand, oor, oxor, odiv, orem, oshl, oshr, oushr, omax, omin]
      simp [rk_i, rk_b, rk_o, st1, kill, Value.category, rcv, nog, b2, Fr.refl]
    | false =>
      cases hy : hasN (W_D w l) K (lCn (W_D w l)) with
      | false =>
        have hw0 : ∀ fc, hs (W_D w l) K fc = false := fun fc => hsN_no hy
        refine w_sq.mpr ((w_siT (by simp only [f_mkF, w_sI, w_sR, w_sL, w_sC, w_sk, w_sbr, w_sco, w_rV, w_rI, w_rR, w_rL, w_dI, w_sO, w_sq, w_si, w_pI, w_pZ, w_pR, w_pU, w_qI, w_qB, w_qZ, w_qU, w_qR, w_kV, q_icst, q_lcst, q_xR, q_ldI, q_ldR, q_ldL, q_bn, q_un, q_dv, q_fI, q_fR, q_aI, q_aR, q_aN, q_tn, q_cmp, q_cmz, q_cnt, q_ctt, q_cand, q_cor, q_vn, q_vI, q_vR, q_vL, q_kI, q_kR, q_kL, q_ckI, envN, argE, List.flatMap_cons, List.flatMap_nil, Value.category, junk, oadd, osub, omul, oand, oor, oxor, odiv, orem, oshl, oshr, oushr, omax, omin]; simp (disch := first | omega | simp) [rk_i, rk_b, rk_o, st1, kill, Value.category, rcv, nog, inI_b, nI_clamp, nI_ltI, nI_leI, nI_eq, nI_9, nI_6, nI_22, nI_12, nI_180, nI_add, nI_1, hn, ly147, b2_0, zne, g1, ly4, hl6, d1, d5, d6, fq_of eh, hy])).mpr ?_)
        simp only [f_mkF, w_sI, w_sR, w_sL, w_sC, w_sk, w_sbr, w_sco, w_rV, w_rI, w_rR, w_rL, w_dI, w_sO, w_sq, w_si, w_pI, w_pZ, w_pR, w_pU, w_qI, w_qB, w_qZ, w_qU, w_qR, w_kV, q_icst, q_lcst, q_xR, q_ldI, q_ldR, q_ldL, q_bn, q_un, q_dv, q_fI, q_fR, q_aI, q_aR, q_aN, q_tn, q_cmp, q_cmz, q_cnt, q_ctt, q_cand, q_cor, q_vn, q_vI, q_vR, q_vL, q_kI, q_kR, q_kL, q_ckI, envN, argE, List.flatMap_cons, List.flatMap_nil, Value.category, junk, oadd, osub, omul, oand, oor, oxor, odiv, orem, oshl, oshr, oushr, omax, omin]
        simp [rk_i, rk_b, rk_o, st1, kill, Value.category, rcv, nog, b2, hw0, Fr.refl]
      | true =>
        refine w_sq.mpr ((w_siF (by simp only [f_mkF, w_sI, w_sR, w_sL, w_sC, w_sk, w_sbr, w_sco, w_rV, w_rI, w_rR, w_rL, w_dI, w_sO, w_sq, w_si, w_pI, w_pZ, w_pR, w_pU, w_qI, w_qB, w_qZ, w_qU, w_qR, w_kV, q_icst, q_lcst, q_xR, q_ldI, q_ldR, q_ldL, q_bn, q_un, q_dv, q_fI, q_fR, q_aI, q_aR, q_aN, q_tn, q_cmp, q_cmz, q_cnt, q_ctt, q_cand, q_cor, q_vn, q_vI, q_vR, q_vL, q_kI, q_kR, q_kL, q_ckI, envN, argE, List.flatMap_cons, List.flatMap_nil, Value.category, junk, oadd, osub, omul, oand, oor, oxor, odiv, orem, oshl, oshr, oushr, omax, omin]; simp (disch := first | omega | simp) [rk_i, rk_b, rk_o, st1, kill, Value.category, rcv, nog, inI_b, nI_clamp, nI_ltI, nI_leI, nI_eq, nI_9, nI_6, nI_22, nI_12, nI_180, nI_add, nI_1, hn, ly147, b2_0, zne, g1, ly4, hl6, d1, d5, d6, fq_of eh, hy])).mpr (w_sk2.mpr ?_))
        refine w_fz fun B hB C hC => ?_
        simp only [f_mkF, w_sI, w_sR, w_sL, w_sC, w_sk, w_sbr, w_sco, w_rV, w_rI, w_rR, w_rL, w_dI, w_sO, w_sq, w_si, w_pI, w_pZ, w_pR, w_pU, w_qI, w_qB, w_qZ, w_qU, w_qR, w_kV, q_icst, q_lcst, q_xR, q_ldI, q_ldR, q_ldL, q_bn, q_un, q_dv, q_fI, q_fR, q_aI, q_aR, q_aN, q_tn, q_cmp, q_cmz, q_cnt, q_ctt, q_cand, q_cor, q_vn, q_vI, q_vR, q_vL, q_kI, q_kR, q_kL, q_ckI, envN, argE, List.flatMap_cons, List.flatMap_nil, Value.category, junk, oadd, osub, omul, oand, oor, oxor, odiv, orem, oshl, oshr, oushr, omax, omin]
        simp (disch := first | omega | simp) [rk_i, rk_b, rk_o, st1, kill, Value.category, rcv, nog, hn, ly147]
        refine fq_mono (x_set q hi hl mind) ?_
        rintro r h1 ⟨rfl, f1, f2⟩
        simp
        subst hB hC
        have f1' : Fr S9 h h1 := f1.sub fun a k z => Or.inl z
        have q1 : CX w T ra h1 := q.fr (f1'.sub fun a k z => S9_SX z)
        have hn1 := q1.hd.1
        have d3' := d3.fr d2 f1 fun a k z => by omega
        simp only [f_mkF, w_sI, w_sR, w_sL, w_sC, w_sk, w_sbr, w_sco, w_rV, w_rI, w_rR, w_rL, w_dI, w_sO, w_sq, w_si, w_pI, w_pZ, w_pR, w_pU, w_qI, w_qB, w_qZ, w_qU, w_qR, w_kV, q_icst, q_lcst, q_xR, q_ldI, q_ldR, q_ldL, q_bn, q_un, q_dv, q_fI, q_fR, q_aI, q_aR, q_aN, q_tn, q_cmp, q_cmz, q_cnt, q_ctt, q_cand, q_cor, q_vn, q_vI, q_vR, q_vL, q_kI, q_kR, q_kL, q_ckI, envN, argE, List.flatMap_cons, List.flatMap_nil, Value.category, junk, oadd, osub, omul, oand, oor, oxor, odiv, orem, oshl, oshr, oushr, omax, omin]
        simp (disch := first | omega | simp) [rk_i, rk_b, rk_o, st1, kill, Value.category, rcv, nog, inI_b, nI_clamp, nI_ltI, nI_leI, nI_eq, nI_9, nI_6, nI_22, nI_12, nI_180, nI_add, nI_1, hn1, ly147, ly148, ly4, f1.2.1, g1, g3, d1, hl6]
        refine fq_mono (x_one q1.1 d2 d4 d3' hK8) ?_
        rintro r h2 ⟨rfl, g⟩
        rw [hs_cong d4 f2]
        have g' := f1'.trans (g.sub fun a k z => Or.inr z)
        simp [rk_i, rk_b, rk_o, st1, kill, Value.category, rcv, nog, b2_ok, hK8, g']
theorem fmo_no {p : Nat → Bool} (hp : ∀ m, p m = false) : ∀ c m, fmo p c m = none := by
  intro c
  induction c with
  | zero => intro m; rfl
  | succ c ih => intro m; rw [fmo, if_neg (by rw [hp]; simp)]; exact ih _
theorem mth_ok {w : Wd} (hw : WV w) {i : Nat} (hi : i < W_n w) : W_R w i 3 = nI (mth w i) ∧ mth w i ≤ (W_no w).toNatClampNeg ∧ (W_no w).toNatClampNeg ≤ 599 ∧ W_no w = nI (W_no w).toNatClampNeg := by
  obtain ⟨a1, a2, a3, a4, a5, a6, a7, a8, a9, a10⟩ := hw
  have v := (a3 i hi).2.2.2.1
  have c1 := clampI v.1
  have c2 := clampI a8.1
  exact ⟨nI_toI v.1, by unfold mth; omega, by omega, nI_toI a8.1⟩
theorem lst_le {w : Wd} (hw : WV w) (i : Nat) (hi : i < W_n w) : lst w i ≤ 599 := by
  unfold lst
  split
  · rename_i h
    have := mth_ok hw h
    omega
  · have := mth_ok hw hi
    omega
theorem fct_79 {w : Wd} {i left : Nat} {mind d j d' j' : Int32} {k : Nat} (h7 : k ≠ 7) (h8 : k ≠ 8) : fct w i left mind d j k = fct w i left mind d' j' k := by
  unfold fct
  split <;> first | rfl | omega
theorem c_7 : (7 : Int32).toNatClampNeg = 7 := rfl
theorem c_8 : (8 : Int32).toNatClampNeg = 8 := rfl
theorem i_7 : inI 7 13 = true := rfl
theorem i_8 : inI 8 13 = true := rfl
theorem x_find {w : Wd} {T : Nat} {ra : Nat → Nat} {h : Hp} (q : CX w T ra h) {i left : Nat} (hi : i < W_n w) (hl : left ≤ i) (mind : Int32) : fq F_X1_findMonth [.ref 147, .int (nI i), .int (nI left), .int mind] h fun r h' => r = some (.int (ofM (wtm w i left mind))) ∧ Fr S9 h h' := by
  obtain ⟨hn, a1, a2, a3, a4, a5, a6, a7⟩ := q.hd
  have hv := frm_ok q.wv (i := left) (by omega)
  have ea := x_asked q (kind := 8) (ow := frm (W_R w) (W_fo w) left) hi (by omega) hv
  have hl6 := askd_lt q.wv (kind := 8) (ow := frm (W_R w) (W_fo w) left) hi
  have g1 : h.2.2 147 1 = some 4 := q.1.2.1.at 64 rfl
  have g3 : h.2.2 147 3 = some 148 := q.1.2.1.at 66 rfl
  have g4 : h.2.2 148 0 = some 149 := q.1.2.1.at 73 rfl
  have hpy : ∀ m, py w i left mind m = hs (W_D w (askd w i 8 (frm (W_R w) (W_fo w) left))) 5 (fct w i left mind (nI m - W_R w i 3) (nI m - W_R w left 3)) := fun m => rfl
  unfold wtm
  generalize askd w i 8 (frm (W_R w) (W_fo w) left) = al at *
  obtain ⟨la, d1, d2, d3, d4, d5, d6⟩ := q.lw hl6
  have eh := x_has q.1 d2 d4 d3 (lt := 5) (by omega)
  have k8 : (8 : Int32) = nI 8 := rfl
  have k5 : (5 : Int32) = nI 5 := rfl
  have hE : envN 8 [Value.ref 147, Value.int (nI i), Value.int (nI left), Value.int mind] = [Value.ref 147, Value.int (nI i), Value.int (nI left), Value.int mind, junk, junk, junk, junk] := rfl
  unfold F_X1_findMonth
  refine f_mkE _ hE (by simp [argE, Value.category]) ?_
  (refine w_fz fun B hB C hC => ?_); (simp only [f_mkF, w_sI, w_sR, w_sL, w_sC, w_sk, w_sbr, w_sco, w_rV, w_rI, w_rR, w_rL, w_dI, w_sO, w_sq, w_si, w_pI, w_pZ, w_pR, w_pU, w_qI, w_qB, w_qZ, w_qU, w_qR, w_kV, q_icst, q_lcst, q_xR, q_ldI, q_ldR, q_ldL, q_bn, q_un, q_dv, q_fI, q_fR, q_aI, q_aR, q_aN, q_tn, q_cmp, q_cmz, q_cnt, q_ctt, q_cand, q_cor, q_vn, q_vI, q_vR, q_vL, q_kI, q_kR, q_kL, q_ckI, envN, argE, List.flatMap_cons, List.flatMap_nil, Value.category, junk, oadd, osub, omul, oand, oor, oxor, odiv, orem, oshl, oshr, oushr, omax, omin]); (simp (disch := first | omega | simp) [rk_i, rk_b, rk_o, st1, kill, Value.category, rcv, nog, inI_b, nI_clamp, nI_ltI, nI_leI, nI_eq, nI_9, nI_6, nI_22, nI_12, nI_180, nI_add, nI_1, hn, ly147, a1, a2, a4, k8, fq_of ea, fq_of (q.fw (i := left) (by omega)), g1, ly4, hl6, d1]); (subst hB hC)
  cases hy : hasN (W_D w al) 5 (lCn (W_D w al)) with
  | false =>
    have hw0 : fmo (py w i left mind) (lst w i - mth w i) (mth w i + 1) = none := fmo_no (fun m => by rw [hpy]; exact hsN_no hy) _ _
    refine w_sq.mpr ((w_siT (by simp only [f_mkF, w_sI, w_sR, w_sL, w_sC, w_sk, w_sbr, w_sco, w_rV, w_rI, w_rR, w_rL, w_dI, w_sO, w_sq, w_si, w_pI, w_pZ, w_pR, w_pU, w_qI, w_qB, w_qZ, w_qU, w_qR, w_kV, q_icst, q_lcst, q_xR, q_ldI, q_ldR, q_ldL, q_bn, q_un, q_dv, q_fI, q_fR, q_aI, q_aR, q_aN, q_tn, q_cmp, q_cmz, q_cnt, q_ctt, q_cand, q_cor, q_vn, q_vI, q_vR, q_vL, q_kI, q_kR, q_kL, q_ckI, envN, argE, List.flatMap_cons, List.flatMap_nil, Value.category, junk, oadd, osub, omul, oand, oor, oxor, odiv, orem, oshl, oshr, oushr, omax, omin]; simp (disch := first | omega | simp) [rk_i, rk_b, rk_o, st1, kill, Value.category, rcv, nog, inI_b, nI_clamp, nI_ltI, nI_leI, nI_eq, nI_9, nI_6, nI_22, nI_12, nI_180, nI_add, nI_1, hn, d5, d6, k5, fq_of eh, hy, b2_0, zne])).mpr ?_)
    simp only [f_mkF, w_sI, w_sR, w_sL, w_sC, w_sk, w_sbr, w_sco, w_rV, w_rI, w_rR, w_rL, w_dI, w_sO, w_sq, w_si, w_pI, w_pZ, w_pR, w_pU, w_qI, w_qB, w_qZ, w_qU, w_qR, w_kV, q_icst, q_lcst, q_xR, q_ldI, q_ldR, q_ldL, q_bn, q_un, q_dv, q_fI, q_fR, q_aI, q_aR, q_aN, q_tn, q_cmp, q_cmz, q_cnt, q_ctt, q_cand, q_cor, q_vn, q_vI, q_vR, q_vL, q_kI, q_kR, q_kL, q_ckI, envN, argE, List.flatMap_cons, List.flatMap_nil, Value.category, junk, oadd, osub, omul, oand, oor, oxor, odiv, orem, oshl, oshr, oushr, omax, omin]
    simp [rk_i, rk_b, rk_o, st1, kill, Value.category, rcv, nog, hw0, ofM, Fr.refl]
  | true =>
    refine w_sq.mpr ((w_siF (by simp only [f_mkF, w_sI, w_sR, w_sL, w_sC, w_sk, w_sbr, w_sco, w_rV, w_rI, w_rR, w_rL, w_dI, w_sO, w_sq, w_si, w_pI, w_pZ, w_pR, w_pU, w_qI, w_qB, w_qZ, w_qU, w_qR, w_kV, q_icst, q_lcst, q_xR, q_ldI, q_ldR, q_ldL, q_bn, q_un, q_dv, q_fI, q_fR, q_aI, q_aR, q_aN, q_tn, q_cmp, q_cmz, q_cnt, q_ctt, q_cand, q_cor, q_vn, q_vI, q_vR, q_vL, q_kI, q_kR, q_kL, q_ckI, envN, argE, List.flatMap_cons, List.flatMap_nil, Value.category, junk, oadd, osub, omul, oand, oor, oxor, odiv, orem, oshl, oshr, oushr, omax, omin]; simp (disch := first | omega | simp) [rk_i, rk_b, rk_o, st1, kill, Value.category, rcv, nog, inI_b, nI_clamp, nI_ltI, nI_leI, nI_eq, nI_9, nI_6, nI_22, nI_12, nI_180, nI_add, nI_1, hn, d5, d6, k5, fq_of eh, hy, b2_0, zne])).mpr (w_sk2.mpr ?_))
    refine w_fz fun B hB C hC => ?_
    simp only [f_mkF, w_sI, w_sR, w_sL, w_sC, w_sk, w_sbr, w_sco, w_rV, w_rI, w_rR, w_rL, w_dI, w_sO, w_sq, w_si, w_pI, w_pZ, w_pR, w_pU, w_qI, w_qB, w_qZ, w_qU, w_qR, w_kV, q_icst, q_lcst, q_xR, q_ldI, q_ldR, q_ldL, q_bn, q_un, q_dv, q_fI, q_fR, q_aI, q_aR, q_aN, q_tn, q_cmp, q_cmz, q_cnt, q_ctt, q_cand, q_cor, q_vn, q_vI, q_vR, q_vL, q_kI, q_kR, q_kL, q_ckI, envN, argE, List.flatMap_cons, List.flatMap_nil, Value.category, junk, oadd, osub, omul, oand, oor, oxor, odiv, orem, oshl, oshr, oushr, omax, omin]
    simp (disch := first | omega | simp) [rk_i, rk_b, rk_o, st1, kill, Value.category, rcv, nog, hn, ly147]
    refine fq_mono (x_set q hi hl mind) ?_
    rintro r h1 ⟨rfl, f1, f2⟩
    simp
    subst hB hC
    have f1' : Fr S9 h h1 := f1.sub fun a k z => Or.inl z
    have q1 : CX w T ra h1 := q.fr (f1'.sub fun a k z => S9_SX z)
    obtain ⟨hn, a1, a2, a3, a4, a5, a6, a7⟩ := q1.hd
    obtain ⟨i20, b1, b2', b3, b4⟩ := q1.row hi
    obtain ⟨m1, m2, m3, m4⟩ := mth_ok q1.wv hi
    have m5 := lst_le q1.wv i hi
    have n20 := q1.wv.1
    have b43 := b4 3 (by omega)
    rw [m1] at b43
    (refine w_fz fun B hB C hC => ?_); (simp only [f_mkF, w_sI, w_sR, w_sL, w_sC, w_sk, w_sbr, w_sco, w_rV, w_rI, w_rR, w_rL, w_dI, w_sO, w_sq, w_si, w_pI, w_pZ, w_pR, w_pU, w_qI, w_qB, w_qZ, w_qU, w_qR, w_kV, q_icst, q_lcst, q_xR, q_ldI, q_ldR, q_ldL, q_bn, q_un, q_dv, q_fI, q_fR, q_aI, q_aR, q_aN, q_tn, q_cmp, q_cmz, q_cnt, q_ctt, q_cand, q_cor, q_vn, q_vI, q_vR, q_vL, q_kI, q_kR, q_kL, q_ckI, envN, argE, List.flatMap_cons, List.flatMap_nil, Value.category, junk, oadd, osub, omul, oand, oor, oxor, odiv, orem, oshl, oshr, oushr, omax, omin]); (simp (disch := first | omega | simp) [rk_i, rk_b, rk_o, st1, kill, Value.category, rcv, nog, inI_b, nI_clamp, nI_ltI, nI_leI, nI_eq, nI_9, nI_6, nI_22, nI_12, nI_180, nI_add, nI_1, hn, ly147, a1, a2, a3, a4, a5, a6, b1, b2', b3, b43, i20]); (subst hB hC)
    refine w_sqI (nI (lst w i)) ?_ rfl ?_
    · simp only [f_mkF, w_sI, w_sR, w_sL, w_sC, w_sk, w_sbr, w_sco, w_rV, w_rI, w_rR, w_rL, w_dI, w_sO, w_sq, w_si, w_pI, w_pZ, w_pR, w_pU, w_qI, w_qB, w_qZ, w_qU, w_qR, w_kV, q_icst, q_lcst, q_xR, q_ldI, q_ldR, q_ldL, q_bn, q_un, q_dv, q_fI, q_fR, q_aI, q_aR, q_aN, q_tn, q_cmp, q_cmz, q_cnt, q_ctt, q_cand, q_cor, q_vn, q_vI, q_vR, q_vL, q_kI, q_kR, q_kL, q_ckI, envN, argE, List.flatMap_cons, List.flatMap_nil, Value.category, junk, oadd, osub, omul, oand, oor, oxor, odiv, orem, oshl, oshr, oushr, omax, omin]
      by_cases hi1 : i + 1 < W_n w
      · obtain ⟨j20, c1, c2', c3, c4⟩ := q1.row hi1
        obtain ⟨n1, -, -, -⟩ := mth_ok q1.wv hi1
        have c43 := c4 3 (by omega)
        rw [n1] at c43
        simp (disch := first | omega | simp) [rk_i, rk_b, rk_o, st1, kill, Value.category, rcv, nog, hn, ly147, a1, a2, a3, a4, a5, a6, a7, inI_b, nI_clamp, nI_ltI, nI_leI, nI_eq, nI_9, nI_6, nI_22, nI_12, nI_180, nI_add, nI_1, hi1, c1, c2', c3, c43, lst]
        first | done | omega | (intro z; omega)
      · simp (disch := first | omega | simp) [rk_i, rk_b, rk_o, st1, kill, Value.category, rcv, nog, hn, ly147, a1, a2, a4, a7, inI_b, nI_clamp, nI_ltI, nI_leI, nI_eq, nI_9, nI_6, nI_22, nI_12, nI_180, nI_add, nI_1, hi1, lst, q1.2.2.2.2.2.1]
        first | exact m4 | exact fun _ => m4
    refine w_sq.mpr ?_
    refine w_sqI (nI (mth w i + 1)) (by simp only [f_mkF, w_sI, w_sR, w_sL, w_sC, w_sk, w_sbr, w_sco, w_rV, w_rI, w_rR, w_rL, w_dI, w_sO, w_sq, w_si, w_pI, w_pZ, w_pR, w_pU, w_qI, w_qB, w_qZ, w_qU, w_qR, w_kV, q_icst, q_lcst, q_xR, q_ldI, q_ldR, q_ldL, q_bn, q_un, q_dv, q_fI, q_fR, q_aI, q_aR, q_aN, q_tn, q_cmp, q_cmz, q_cnt, q_ctt, q_cand, q_cor, q_vn, q_vI, q_vR, q_vL, q_kI, q_kR, q_kL, q_ckI, envN, argE, List.flatMap_cons, List.flatMap_nil, Value.category, junk, oadd, osub, omul, oand, oor, oxor, odiv, orem, oshl, oshr, oushr, omax, omin]; simp [rk_i, rk_b, rk_o, st1, kill, Value.category, rcv, nog, nI_1]) rfl ?_
    refine wp_mono (w_lp (Q := fun o v E1 h' => ((o = 2 ∧ v = .int (ofM (fmo (py w i left mind) (lst w i - mth w i) (mth w i + 1)))) ∨ (o = 0 ∧ fmo (py w i left mind) (lst w i - mth w i) (mth w i + 1) = none)) ∧ Fr S9 h h') (fun k E h' => ∃ m, k = lst w i + 1 - m ∧ m ≤ 601 ∧ E = [.ref 147, .int (nI i), .int (nI left), .int mind, .ref la, .int (nI (mth w i)), .int (nI (lst w i)), .int (nI m)] ∧ Fr S9 h h' ∧ (∀ k, k < 13 → k ≠ 7 → k ≠ 8 → h'.2.1 149 k = fct w i left mind 0 0 k) ∧ fmo (py w i left mind) (lst w i + 1 - m) m = fmo (py w i left mind) (lst w i - mth w i) (mth w i + 1)) ?_ (lst w i + 1 - (mth w i + 1)) _ _ ⟨mth w i + 1, rfl, by omega, rfl, f1', fun k k1 k2 k3 => (f2 k k1).trans (fct_79 k2 k3), by rw [show lst w i + 1 - (mth w i + 1) = lst w i - mth w i by omega]⟩) ?_
    · rintro k E h' ⟨m, rfl, m6, rfl, f3, f4, f5⟩
      have q2 : CX w T ra h' := q.fr (f3.sub fun a k z => S9_SX z)
      by_cases hm : m ≤ lst w i
      · obtain ⟨c, hc⟩ : ∃ c, lst w i + 1 - m = c + 1 := ⟨lst w i - m, by omega⟩
        rw [hc, fmo] at f5
        obtain ⟨hn, a1, a2, a3, a4, a5, a6, a7⟩ := q2.hd
        obtain ⟨l20, c1, c2', c3, c4⟩ := q2.row (i := left) (by omega)
        have g3' : h'.2.2 147 3 = some 148 := q2.1.2.1.at 66 rfl
        have g4' : h'.2.2 148 0 = some 149 := q2.1.2.1.at 73 rfl
        refine ev_T ?_ ⟨fun z => (by cases z), fun _ => ?_⟩
        · simp only [f_mkF, w_sI, w_sR, w_sL, w_sC, w_sk, w_sbr, w_sco, w_rV, w_rI, w_rR, w_rL, w_dI, w_sO, w_sq, w_si, w_pI, w_pZ, w_pR, w_pU, w_qI, w_qB, w_qZ, w_qU, w_qR, w_kV, q_icst, q_lcst, q_xR, q_ldI, q_ldR, q_ldL, q_bn, q_un, q_dv, q_fI, q_fR, q_aI, q_aR, q_aN, q_tn, q_cmp, q_cmz, q_cnt, q_ctt, q_cand, q_cor, q_vn, q_vI, q_vR, q_vL, q_kI, q_kR, q_kL, q_ckI, envN, argE, List.flatMap_cons, List.flatMap_nil, Value.category, junk, oadd, osub, omul, oand, oor, oxor, odiv, orem, oshl, oshr, oushr, omax, omin]
          simp (disch := first | omega | simp) [rk_i, rk_b, rk_o, st1, kill, Value.category, rcv, nog, inI_b, nI_clamp, nI_ltI, nI_leI, nI_eq, nI_9, nI_6, nI_22, nI_12, nI_180, nI_add, nI_1, hm]
        (refine w_fz fun B hB C hC => ?_); (simp only [f_mkF, w_sI, w_sR, w_sL, w_sC, w_sk, w_sbr, w_sco, w_rV, w_rI, w_rR, w_rL, w_dI, w_sO, w_sq, w_si, w_pI, w_pZ, w_pR, w_pU, w_qI, w_qB, w_qZ, w_qU, w_qR, w_kV, q_icst, q_lcst, q_xR, q_ldI, q_ldR, q_ldL, q_bn, q_un, q_dv, q_fI, q_fR, q_aI, q_aR, q_aN, q_tn, q_cmp, q_cmz, q_cnt, q_ctt, q_cand, q_cor, q_vn, q_vI, q_vR, q_vL, q_kI, q_kR, q_kL, q_ckI, envN, argE, List.flatMap_cons, List.flatMap_nil, Value.category, junk, oadd, osub, omul, oand, oor, oxor, odiv, orem, oshl, oshr, oushr, omax, omin]); (simp (disch := first | omega | simp) [rk_i, rk_b, rk_o, st1, kill, Value.category, rcv, nog, inI_b, nI_clamp, nI_ltI, nI_leI, nI_eq, nI_9, nI_6, nI_22, nI_12, nI_180, nI_add, nI_1, hn, ly147, ly148, ly149, g3', g4', c_7, i_7]); (subst hB hC)
        (refine w_fz fun B hB C hC => ?_); (simp only [f_mkF, w_sI, w_sR, w_sL, w_sC, w_sk, w_sbr, w_sco, w_rV, w_rI, w_rR, w_rL, w_dI, w_sO, w_sq, w_si, w_pI, w_pZ, w_pR, w_pU, w_qI, w_qB, w_qZ, w_qU, w_qR, w_kV, q_icst, q_lcst, q_xR, q_ldI, q_ldR, q_ldL, q_bn, q_un, q_dv, q_fI, q_fR, q_aI, q_aR, q_aN, q_tn, q_cmp, q_cmz, q_cnt, q_ctt, q_cand, q_cor, q_vn, q_vI, q_vR, q_vL, q_kI, q_kR, q_kL, q_ckI, envN, argE, List.flatMap_cons, List.flatMap_nil, Value.category, junk, oadd, osub, omul, oand, oor, oxor, odiv, orem, oshl, oshr, oushr, omax, omin]); (simp (disch := first | omega | simp) [rk_i, rk_b, rk_o, st1, kill, Value.category, rcv, nog, inI_b, nI_clamp, nI_ltI, nI_leI, nI_eq, nI_9, nI_6, nI_22, nI_12, nI_180, nI_add, nI_1, hn, ly147, ly148, ly149, g3', g4', c_8, i_8, wI_1, wI_r, wI_i, a1, a2, a3, a4, a5, a6, c1, c2', c3, c4 3, l20]); (subst hB hC)
        have f6 : Fr S9 h (wI (wI h' 149 7 (nI m - nI (mth w i))) 149 8 (nI m - W_R w left 3)) := (f3.w (Or.inl rfl)).w (Or.inl rfl)
        have hv2 : ∀ k, k < 13 → (wI (wI h' 149 7 (nI m - nI (mth w i))) 149 8 (nI m - W_R w left 3)).2.1 149 k = fct w i left mind (nI m - W_R w i 3) (nI m - W_R w left 3) k := by
          intro k hk
          rw [wI_i, wI_i]
          by_cases k8 : k = 8
          · subst k8; simp [fct]
          · by_cases k7 : k = 7
            · subst k7; simp [fct, m1]
            · rw [if_neg (by omega), if_neg (by omega), f4 k hk k7 k8]
              exact fct_79 k7 k8
        generalize wI (wI h' 149 7 (nI m - nI (mth w i))) 149 8 (nI m - W_R w left 3) = h5 at *
        have q5 : CX w T ra h5 := q.fr (f6.sub fun a k z => S9_SX z)
        have hn5 := q5.hd.1
        have g5 : h5.2.2 147 3 = some 148 := q5.1.2.1.at 66 rfl
        have d3' := d3.fr d2 f6 fun a k z => by unfold S9; omega
        have k5 : (5 : Int32) = nI 5 := rfl
        rw [w_si, q_cnt, q_cmz]
        refine q_kIe [.ref 148, .ref la, .int (nI 5)] (by simp only [f_mkF, w_sI, w_sR, w_sL, w_sC, w_sk, w_sbr, w_sco, w_rV, w_rI, w_rR, w_rL, w_dI, w_sO, w_sq, w_si, w_pI, w_pZ, w_pR, w_pU, w_qI, w_qB, w_qZ, w_qU, w_qR, w_kV, q_icst, q_lcst, q_xR, q_ldI, q_ldR, q_ldL, q_bn, q_un, q_dv, q_fI, q_fR, q_aI, q_aR, q_aN, q_tn, q_cmp, q_cmz, q_cnt, q_ctt, q_cand, q_cor, q_vn, q_vI, q_vR, q_vL, q_kI, q_kR, q_kL, q_ckI, envN, argE, List.flatMap_cons, List.flatMap_nil, Value.category, junk, oadd, osub, omul, oand, oor, oxor, odiv, orem, oshl, oshr, oushr, omax, omin]; simp [hn5, ly147, g5, k5]) (by simp [rcv, hn5, ly148]) ?_
        refine fq_mono (x_one q5.1 d2 d4 d3' (by omega)) ?_
        rintro r h6 ⟨rfl, g⟩
        rw [hs_cong d4 hv2, ← hpy]
        have f7 : Fr S9 h h6 := f6.trans (g.sub fun a k z => Or.inr z)
        refine ⟨_, rfl, ?_⟩
        cases hb : py w i left mind m with
        | true =>
          rw [if_pos hb] at f5
          refine ⟨fun _ => ?_, fun z => ?_⟩
          · simp only [f_mkF, w_sI, w_sR, w_sL, w_sC, w_sk, w_sbr, w_sco, w_rV, w_rI, w_rR, w_rL, w_dI, w_sO, w_sq, w_si, w_pI, w_pZ, w_pR, w_pU, w_qI, w_qB, w_qZ, w_qU, w_qR, w_kV, q_icst, q_lcst, q_xR, q_ldI, q_ldR, q_ldL, q_bn, q_un, q_dv, q_fI, q_fR, q_aI, q_aR, q_aN, q_tn, q_cmp, q_cmz, q_cnt, q_ctt, q_cand, q_cor, q_vn, q_vI, q_vR, q_vL, q_kI, q_kR, q_kL, q_ckI, envN, argE, List.flatMap_cons, List.flatMap_nil, Value.category, junk, oadd, osub, omul, oand, oor, oxor, odiv, orem, oshl, oshr, oushr, omax, omin]
            simp [← f5, ofM, f7]
          · simp [b2] at z
        | false =>
          rw [if_neg (by rw [hb]; simp)] at f5
          refine ⟨fun z => ?_, fun _ => ?_⟩
          · simp [b2] at z
          · rw [w_sk]
            refine ⟨fun _ => w_sCe (nI m) (nI (m + 1)) rfl (nI_1 _) rfl ⟨rfl, lst w i + 1 - (m + 1), by omega, m + 1, rfl, by omega, rfl, f7, fun k k1 k2 k3 => ?_, ?_⟩, (fun z => by cases z), fun z => absurd rfl z⟩
            · rw [g.2.2 149 k (by omega), hv2 k k1]
              exact fct_79 k2 k3
            · rw [← f5, show lst w i + 1 - (m + 1) = c by omega]
      · refine ev_F ?_ ⟨fun _ => ⟨Or.inr ⟨rfl, ?_⟩, f3⟩, fun z => (by cases z)⟩
        · simp only [f_mkF, w_sI, w_sR, w_sL, w_sC, w_sk, w_sbr, w_sco, w_rV, w_rI, w_rR, w_rL, w_dI, w_sO, w_sq, w_si, w_pI, w_pZ, w_pR, w_pU, w_qI, w_qB, w_qZ, w_qU, w_qR, w_kV, q_icst, q_lcst, q_xR, q_ldI, q_ldR, q_ldL, q_bn, q_un, q_dv, q_fI, q_fR, q_aI, q_aR, q_aN, q_tn, q_cmp, q_cmz, q_cnt, q_ctt, q_cand, q_cor, q_vn, q_vI, q_vR, q_vL, q_kI, q_kR, q_kL, q_ckI, envN, argE, List.flatMap_cons, List.flatMap_nil, Value.category, junk, oadd, osub, omul, oand, oor, oxor, odiv, orem, oshl, oshr, oushr, omax, omin]
          simp (disch := first | omega | simp) [rk_i, rk_b, rk_o, st1, kill, Value.category, rcv, nog, inI_b, nI_clamp, nI_ltI, nI_leI, nI_eq, nI_9, nI_6, nI_22, nI_12, nI_180, nI_add, nI_1]
          omega
        · rw [← f5, show lst w i + 1 - m = 0 by omega]
          rfl
    · rintro o v E' h' ⟨⟨rfl, rfl⟩ | ⟨rfl, hn2⟩, f⟩
      · exact ⟨fun z => (by cases z), fun _ => Or.inr ⟨rfl, rfl, rfl, f⟩⟩
      · refine ⟨fun _ => ?_, fun z => absurd rfl z⟩
        simp only [f_mkF, w_sI, w_sR, w_sL, w_sC, w_sk, w_sbr, w_sco, w_rV, w_rI, w_rR, w_rL, w_dI, w_sO, w_sq, w_si, w_pI, w_pZ, w_pR, w_pU, w_qI, w_qB, w_qZ, w_qU, w_qR, w_kV, q_icst, q_lcst, q_xR, q_ldI, q_ldR, q_ldL, q_bn, q_un, q_dv, q_fI, q_fR, q_aI, q_aR, q_aN, q_tn, q_cmp, q_cmz, q_cnt, q_ctt, q_cand, q_cor, q_vn, q_vI, q_vR, q_vL, q_kI, q_kR, q_kL, q_ckI, envN, argE, List.flatMap_cons, List.flatMap_nil, Value.category, junk, oadd, osub, omul, oand, oor, oxor, odiv, orem, oshl, oshr, oushr, omax, omin]
        simp [rk_i, rk_b, rk_o, st1, kill, Value.category, rcv, nog, hn2, ofM, f]
