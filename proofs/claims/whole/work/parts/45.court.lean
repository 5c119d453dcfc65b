/-! the class's court: letters, titles, months -/
theorem w_fz {a b : Sm} {E : En} {h : Hp} {Q : Nat → Value → En → Hp → Prop} (H : ∀ B, B = b → ∀ C, C = Q → wp (sq a B) E h C) : wp (sq a b) E h Q := H b rfl Q rfl
theorem CX.hd {w : Wd} {T : Nat} {ra : Nat → Nat} {h : Hp} (q : CX w T ra h) : h.1 = 212 ∧ h.2.2 147 12 = some T ∧ T < 212 ∧ T + 1 < 212 ∧ (LY T).1 = 9 ∧ h.2.2 T 0 = some (T + 1) ∧ LY (T + 1) = (16, 20) ∧ h.2.1 T 1 = nI (W_n w) := by
  obtain ⟨hp, q2, ⟨⟨hn, t1, t2, t3, t4, t5⟩, ⟨n1, n2⟩, r1, r2⟩, -⟩ := q
  exact ⟨hn, q2, by omega, by omega, t3, t4, t5, n1⟩
theorem CX.row {w : Wd} {T : Nat} {ra : Nat → Nat} {h : Hp} (q : CX w T ra h) {i : Nat} (hi : i < W_n w) : i < 20 ∧ h.2.2 (T + 1) i = some (ra i) ∧ ra i < 212 ∧ (LY (ra i)).1 = 5 ∧ ∀ k, k < 8 → h.2.1 (ra i) k = W_R w i k := by
  obtain ⟨hp, q2, ⟨⟨hn, t1, t2, t3, t4, t5⟩, ⟨n1, n2⟩, r1, r2⟩, -⟩ := q
  obtain ⟨r3, r4, r5, r6⟩ := r1 i (by omega)
  exact ⟨by omega, r3, by omega, r6, fun k hk => r2 i k hi hk⟩
theorem CX.fw {w : Wd} {T : Nat} {ra : Nat → Nat} {h : Hp} (q : CX w T ra h) {i : Nat} (hi : i ≤ W_n w) : F_X9_fromWhom [.ref T, .int (nI i)] h = some (some (.int (frm (W_R w) (W_fo w) i)), h) := by
  have := e_x_from q.2.2.1 hi
  rw [q.2.2.2.1.2.1] at this
  exact this
theorem CX.rg {w : Wd} {T : Nat} {ra : Nat → Nat} {h : Hp} (q : CX w T ra h) {i : Nat} (hi : i ≤ W_n w) : F_X9_registeredAhead [.ref T, .int (nI i)] h = some (some (.int (regd (W_R w) (W_fo w) i)), h) := by
  have := e_x_reg q.2.2.1 hi
  rw [q.2.2.2.1.2.1] at this
  exact this
theorem x_asked {w : Wd} {T : Nat} {ra : Nat → Nat} {h : Hp} (q : CX w T ra h) {i kind : Nat} {ow : Int32} (hi : i < W_n w) (hk : kind < 9) (ho : 0 ≤ ow.toInt ∧ ow.toInt < 12) : F_X1_askedLand [.ref 147, .int (nI i), .int (nI kind), .int ow] h = some (some (.int (nI (askd w i kind ow))), h) := by
  have hn := q.hd.1
  have e := x_ruling q hi hk ho
  have q7 := q.2.2.2.2.1
  have hl := askd_lt q.2.2.2.2.2.2.2.2.2 (kind := kind) (ow := ow) hi
  rw [← fq_eq]
  unfold F_X1_askedLand
  simp only [f_mkF, w_sI, w_sR, w_sL, w_sC, w_sk, w_sbr, w_sco, w_rV, w_rI, w_rR, w_rL, w_dI, w_sO, w_sq, w_si, w_pI, w_pZ, w_pR, w_pU, w_qI, w_qB, w_qZ, w_qU, w_qR, w_kV, q_icst, q_lcst, q_xR, q_ldI, q_ldR, q_ldL, q_bn, q_un, q_dv, q_fI, q_fR, q_aI, q_aR, q_aN, q_tn, q_cmp, q_cmz, q_cnt, q_ctt, q_cand, q_cor, q_vn, q_vI, q_vR, q_vL, q_kI, q_kR, q_kL, q_ckI, envN, argE, List.flatMap_cons, List.flatMap_nil, Value.category, junk, oadd, osub, omul, oand, oor, oxor, odiv, orem, oshl, oshr, oushr, omax, omin]
  unfold askd at hl ⊢
  cases hr : rul w i kind ow with
  | none =>
    rw [hr] at e
    simp (disch := first | omega | simp) [rk_i, rk_b, rk_o, st1, kill, Value.category, rcv, nog, hn, ly147, fq_of e, q7, ofR]
  | some r =>
    rw [hr] at e hl
    have hl' : r < 6 := hl
    have z : ¬ nI r = -2 := fun z => by
      have z2 := congrArg Int32.toInt z
      rw [nI_toInt (by omega)] at z2
      have z3 : Int32.toInt (-2) = -2 := rfl
      omega
    simp (disch := first | omega | simp) [rk_i, rk_b, rk_o, st1, kill, Value.category, rcv, nog, hn, ly147, fq_of e, q7, ofR, z]
theorem w_st {w : Wd} {T : Nat} {ra : Nat → Nat} {h : Hp} (j : Nat) (v : Int32) {b : DI} {s : Sm} {E : En} {Q : Nat → Value → En → Hp → Prop} (q : CX w T ra h) (hj : j < 13) (hE : E[6]? = some (.ref 149)) (hb : ∀ h', CX w T ra h' → ev b E h' fun y h1 => y = v ∧ h1 = h') (hs : CX w T ra (wI h 149 j v) → wp s E (wI h 149 j v) Q) : wp (sq (qI 13 (ldR 6) (icst (nI j)) b) s) E h Q := by
  have hn := q.hd.1
  refine w_sqN ?_
  rw [w_qI, q_ldR]
  refine ⟨149, hE, ?_⟩
  rw [q_icst]
  refine ev_mono (hb h q) ?_
  rintro y h1 ⟨rfl, rfl⟩
  have hj' : inI (nI j) 13 = true := by rw [inI_b (by omega)]; simp [hj]
  refine ⟨⟨by omega, rfl, hj'⟩, rfl, ?_⟩
  rw [nI_clamp (by omega)]
  exact hs (q.fr ((Fr.refl h1).w (Or.inl ⟨by omega, by omega⟩)))
theorem x_set {w : Wd} {T : Nat} {ra : Nat → Nat} {h : Hp} (q : CX w T ra h) {i left : Nat} (hi : i < W_n w) (hl : left ≤ i) (mind : Int32) : fq F_X1_setLetters [.ref 147, .int (nI i), .int (nI left), .int mind] h fun r h' => r = none ∧ Fr (fun a _ => a = 149) h h' ∧ ∀ k, k < 13 → h'.2.1 149 k = fct w i left mind 0 (W_R w i 3 - W_R w left 3) k := by
  have g3 : h.2.2 147 3 = some 148 := q.1.2.1.at 66 rfl
  have g4 : h.2.2 148 0 = some 149 := q.1.2.1.at 73 rfl
  obtain ⟨hn, a1, a2, a3, a4, a5, a6, a7⟩ := q.hd
  obtain ⟨i20, b1, b2', b3, -⟩ := q.row hi
  obtain ⟨l20, c1, c2, c3, -⟩ := q.row (i := left) (by omega)
  unfold F_X1_setLetters
  rw [f_mkF]
  refine ⟨by simp [argE, Value.category], ?_⟩
  rw [show envN 7 [Value.ref 147, Value.int (nI i), Value.int (nI left), Value.int mind] = [Value.ref 147, Value.int (nI i), Value.int (nI left), Value.int mind, junk, junk, junk] from rfl]
  (refine w_fz fun B hB C hC => ?_); (simp only [f_mkF, w_sI, w_sR, w_sL, w_sC, w_sk, w_sbr, w_sco, w_rV, w_rI, w_rR, w_rL, w_dI, w_sO, w_sq, w_si, w_pI, w_pZ, w_pR, w_pU, w_qI, w_qB, w_qZ, w_qU, w_qR, w_kV, q_icst, q_lcst, q_xR, q_ldI, q_ldR, q_ldL, q_bn, q_un, q_dv, q_fI, q_fR, q_aI, q_aR, q_aN, q_tn, q_cmp, q_cmz, q_cnt, q_ctt, q_cand, q_cor, q_vn, q_vI, q_vR, q_vL, q_kI, q_kR, q_kL, q_ckI, envN, argE, List.flatMap_cons, List.flatMap_nil, Value.category, junk, oadd, osub, omul, oand, oor, oxor, odiv, orem, oshl, oshr, oushr, omax, omin]); (simp (disch := first | omega | simp) [rk_i, rk_b, rk_o, st1, kill, Value.category, rcv, nog, inI_b, nI_clamp, nI_ltI, nI_leI, nI_eq, nI_9, nI_6, nI_22, nI_12, nI_180, nI_add, nI_1, hn, ly147, a1, a2, a3, a4, a5, a6, b1, i20]); (subst hB hC)
  (refine w_fz fun B hB C hC => ?_); (simp only [f_mkF, w_sI, w_sR, w_sL, w_sC, w_sk, w_sbr, w_sco, w_rV, w_rI, w_rR, w_rL, w_dI, w_sO, w_sq, w_si, w_pI, w_pZ, w_pR, w_pU, w_qI, w_qB, w_qZ, w_qU, w_qR, w_kV, q_icst, q_lcst, q_xR, q_ldI, q_ldR, q_ldL, q_bn, q_un, q_dv, q_fI, q_fR, q_aI, q_aR, q_aN, q_tn, q_cmp, q_cmz, q_cnt, q_ctt, q_cand, q_cor, q_vn, q_vI, q_vR, q_vL, q_kI, q_kR, q_kL, q_ckI, envN, argE, List.flatMap_cons, List.flatMap_nil, Value.category, junk, oadd, osub, omul, oand, oor, oxor, odiv, orem, oshl, oshr, oushr, omax, omin]); (simp (disch := first | omega | simp) [rk_i, rk_b, rk_o, st1, kill, Value.category, rcv, nog, inI_b, nI_clamp, nI_ltI, nI_leI, nI_eq, nI_9, nI_6, nI_22, nI_12, nI_180, nI_add, nI_1, hn, ly147, a1, a2, a3, a4, a5, a6, c1, l20]); (subst hB hC)
  (refine w_fz fun B hB C hC => ?_); (simp only [f_mkF, w_sI, w_sR, w_sL, w_sC, w_sk, w_sbr, w_sco, w_rV, w_rI, w_rR, w_rL, w_dI, w_sO, w_sq, w_si, w_pI, w_pZ, w_pR, w_pU, w_qI, w_qB, w_qZ, w_qU, w_qR, w_kV, q_icst, q_lcst, q_xR, q_ldI, q_ldR, q_ldL, q_bn, q_un, q_dv, q_fI, q_fR, q_aI, q_aR, q_aN, q_tn, q_cmp, q_cmz, q_cnt, q_ctt, q_cand, q_cor, q_vn, q_vI, q_vR, q_vL, q_kI, q_kR, q_kL, q_ckI, envN, argE, List.flatMap_cons, List.flatMap_nil, Value.category, junk, oadd, osub, omul, oand, oor, oxor, odiv, orem, oshl, oshr, oushr, omax, omin]); (simp (disch := first | omega | simp) [rk_i, rk_b, rk_o, st1, kill, Value.category, rcv, nog, inI_b, nI_clamp, nI_ltI, nI_leI, nI_eq, nI_9, nI_6, nI_22, nI_12, nI_180, nI_add, nI_1, hn, ly147, ly148, g3, g4]); (subst hB hC)
  refine w_st 0 mind q (by omega) rfl (fun h' q' => ?_) fun q => ?_
  · simp only [f_mkF, w_sI, w_sR, w_sL, w_sC, w_sk, w_sbr, w_sco, w_rV, w_rI, w_rR, w_rL, w_dI, w_sO, w_sq, w_si, w_pI, w_pZ, w_pR, w_pU, w_qI, w_qB, w_qZ, w_qU, w_qR, w_kV, q_icst, q_lcst, q_xR, q_ldI, q_ldR, q_ldL, q_bn, q_un, q_dv, q_fI, q_fR, q_aI, q_aR, q_aN, q_tn, q_cmp, q_cmz, q_cnt, q_ctt, q_cand, q_cor, q_vn, q_vI, q_vR, q_vL, q_kI, q_kR, q_kL, q_ckI, envN, argE, List.flatMap_cons, List.flatMap_nil, Value.category, junk, oadd, osub, omul, oand, oor, oxor, odiv, orem, oshl, oshr, oushr, omax, omin]; simp
  refine w_st 1 (b2 (W_R w i 5 &&& 1 ≠ 0)) q (by omega) rfl (fun h' q' => ?_) fun q => ?_
  · obtain ⟨hn, a1, a2, a3, a4, a5, a6, a7⟩ := q'.hd
    obtain ⟨i20, b1, b2', b3, b4⟩ := q'.row hi
    simp only [f_mkF, w_sI, w_sR, w_sL, w_sC, w_sk, w_sbr, w_sco, w_rV, w_rI, w_rR, w_rL, w_dI, w_sO, w_sq, w_si, w_pI, w_pZ, w_pR, w_pU, w_qI, w_qB, w_qZ, w_qU, w_qR, w_kV, q_icst, q_lcst, q_xR, q_ldI, q_ldR, q_ldL, q_bn, q_un, q_dv, q_fI, q_fR, q_aI, q_aR, q_aN, q_tn, q_cmp, q_cmz, q_cnt, q_ctt, q_cand, q_cor, q_vn, q_vI, q_vR, q_vL, q_kI, q_kR, q_kL, q_ckI, envN, argE, List.flatMap_cons, List.flatMap_nil, Value.category, junk, oadd, osub, omul, oand, oor, oxor, odiv, orem, oshl, oshr, oushr, omax, omin]
    simp (disch := first | omega | simp) [rk_i, rk_b, rk_o, st1, kill, Value.category, rcv, nog, fq_of (e_x_sign (ra i) 1 h' hn b2' b3), hn, b3, b2', b4 5]
  refine w_st 2 (b2 (W_R w i 5 &&& 2 ≠ 0)) q (by omega) rfl (fun h' q' => ?_) fun q => ?_
  · obtain ⟨hn, a1, a2, a3, a4, a5, a6, a7⟩ := q'.hd
    obtain ⟨i20, b1, b2', b3, b4⟩ := q'.row hi
    simp only [f_mkF, w_sI, w_sR, w_sL, w_sC, w_sk, w_sbr, w_sco, w_rV, w_rI, w_rR, w_rL, w_dI, w_sO, w_sq, w_si, w_pI, w_pZ, w_pR, w_pU, w_qI, w_qB, w_qZ, w_qU, w_qR, w_kV, q_icst, q_lcst, q_xR, q_ldI, q_ldR, q_ldL, q_bn, q_un, q_dv, q_fI, q_fR, q_aI, q_aR, q_aN, q_tn, q_cmp, q_cmz, q_cnt, q_ctt, q_cand, q_cor, q_vn, q_vI, q_vR, q_vL, q_kI, q_kR, q_kL, q_ckI, envN, argE, List.flatMap_cons, List.flatMap_nil, Value.category, junk, oadd, osub, omul, oand, oor, oxor, odiv, orem, oshl, oshr, oushr, omax, omin]
    simp (disch := first | omega | simp) [rk_i, rk_b, rk_o, st1, kill, Value.category, rcv, nog, fq_of (e_x_sign (ra i) 2 h' hn b2' b3), hn, b3, b2', b4 5]
  refine w_st 3 (b2 (regd (W_R w) (W_fo w) i = frm (W_R w) (W_fo w) i)) q (by omega) rfl (fun h' q' => ?_) fun q => ?_
  · obtain ⟨hn, a1, a2, a3, a4, a5, a6, a7⟩ := q'.hd
    simp only [f_mkF, w_sI, w_sR, w_sL, w_sC, w_sk, w_sbr, w_sco, w_rV, w_rI, w_rR, w_rL, w_dI, w_sO, w_sq, w_si, w_pI, w_pZ, w_pR, w_pU, w_qI, w_qB, w_qZ, w_qU, w_qR, w_kV, q_icst, q_lcst, q_xR, q_ldI, q_ldR, q_ldL, q_bn, q_un, q_dv, q_fI, q_fR, q_aI, q_aR, q_aN, q_tn, q_cmp, q_cmz, q_cnt, q_ctt, q_cand, q_cor, q_vn, q_vI, q_vR, q_vL, q_kI, q_kR, q_kL, q_ckI, envN, argE, List.flatMap_cons, List.flatMap_nil, Value.category, junk, oadd, osub, omul, oand, oor, oxor, odiv, orem, oshl, oshr, oushr, omax, omin]
    simp (disch := first | omega | simp) [rk_i, rk_b, rk_o, st1, kill, Value.category, rcv, nog, hn, ly147, a1, a2, a4, fq_of (q'.rg (i := i) (by omega)), fq_of (q'.fw (i := i) (by omega)), b2]
    try grind
  refine w_st 4 (b2 (W_R w left 0 = 3 ∨ W_R w left 0 = 4)) q (by omega) rfl (fun h' q' => ?_) fun q => ?_
  · obtain ⟨hn, a1, a2, a3, a4, a5, a6, a7⟩ := q'.hd
    obtain ⟨i20, b1, b2', b3, b4⟩ := q'.row (i := left) (by omega)
    simp only [f_mkF, w_sI, w_sR, w_sL, w_sC, w_sk, w_sbr, w_sco, w_rV, w_rI, w_rR, w_rL, w_dI, w_sO, w_sq, w_si, w_pI, w_pZ, w_pR, w_pU, w_qI, w_qB, w_qZ, w_qU, w_qR, w_kV, q_icst, q_lcst, q_xR, q_ldI, q_ldR, q_ldL, q_bn, q_un, q_dv, q_fI, q_fR, q_aI, q_aR, q_aN, q_tn, q_cmp, q_cmz, q_cnt, q_ctt, q_cand, q_cor, q_vn, q_vI, q_vR, q_vL, q_kI, q_kR, q_kL, q_ckI, envN, argE, List.flatMap_cons, List.flatMap_nil, Value.category, junk, oadd, osub, omul, oand, oor, oxor, odiv, orem, oshl, oshr, oushr, omax, omin]
    simp (disch := first | omega | simp) [rk_i, rk_b, rk_o, st1, kill, Value.category, rcv, nog, hn, b2', b3, b4 0, b2]
    try grind
  refine w_st 5 (W_R w i 4) q (by omega) rfl (fun h' q' => ?_) fun q => ?_
  · obtain ⟨hn, a1, a2, a3, a4, a5, a6, a7⟩ := q'.hd
    obtain ⟨i20, b1, b2', b3, b4⟩ := q'.row hi
    simp only [f_mkF, w_sI, w_sR, w_sL, w_sC, w_sk, w_sbr, w_sco, w_rV, w_rI, w_rR, w_rL, w_dI, w_sO, w_sq, w_si, w_pI, w_pZ, w_pR, w_pU, w_qI, w_qB, w_qZ, w_qU, w_qR, w_kV, q_icst, q_lcst, q_xR, q_ldI, q_ldR, q_ldL, q_bn, q_un, q_dv, q_fI, q_fR, q_aI, q_aR, q_aN, q_tn, q_cmp, q_cmz, q_cnt, q_ctt, q_cand, q_cor, q_vn, q_vI, q_vR, q_vL, q_kI, q_kR, q_kL, q_ckI, envN, argE, List.flatMap_cons, List.flatMap_nil, Value.category, junk, oadd, osub, omul, oand, oor, oxor, odiv, orem, oshl, oshr, oushr, omax, omin]
    simp (disch := first | omega | simp) [rk_i, rk_b, rk_o, st1, kill, Value.category, rcv, nog, hn, b3, b2', b4 4]
  refine w_st 6 (W_wo w) q (by omega) rfl (fun h' q' => ?_) fun q => ?_
  · obtain ⟨hn, a1, a2, a3, a4, a5, a6, a7⟩ := q'.hd
    simp only [f_mkF, w_sI, w_sR, w_sL, w_sC, w_sk, w_sbr, w_sco, w_rV, w_rI, w_rR, w_rL, w_dI, w_sO, w_sq, w_si, w_pI, w_pZ, w_pR, w_pU, w_qI, w_qB, w_qZ, w_qU, w_qR, w_kV, q_icst, q_lcst, q_xR, q_ldI, q_ldR, q_ldL, q_bn, q_un, q_dv, q_fI, q_fR, q_aI, q_aR, q_aN, q_tn, q_cmp, q_cmz, q_cnt, q_ctt, q_cand, q_cor, q_vn, q_vI, q_vR, q_vL, q_kI, q_kR, q_kL, q_ckI, envN, argE, List.flatMap_cons, List.flatMap_nil, Value.category, junk, oadd, osub, omul, oand, oor, oxor, odiv, orem, oshl, oshr, oushr, omax, omin]
    simp (disch := first | omega | simp) [rk_i, rk_b, rk_o, st1, kill, Value.category, rcv, nog, hn, ly147, a1, a2, a4, q'.2.2.2.1.1]
  refine w_st 7 0 q (by omega) rfl (fun h' q' => ?_) fun q => ?_
  · simp only [f_mkF, w_sI, w_sR, w_sL, w_sC, w_sk, w_sbr, w_sco, w_rV, w_rI, w_rR, w_rL, w_dI, w_sO, w_sq, w_si, w_pI, w_pZ, w_pR, w_pU, w_qI, w_qB, w_qZ, w_qU, w_qR, w_kV, q_icst, q_lcst, q_xR, q_ldI, q_ldR, q_ldL, q_bn, q_un, q_dv, q_fI, q_fR, q_aI, q_aR, q_aN, q_tn, q_cmp, q_cmz, q_cnt, q_ctt, q_cand, q_cor, q_vn, q_vI, q_vR, q_vL, q_kI, q_kR, q_kL, q_ckI, envN, argE, List.flatMap_cons, List.flatMap_nil, Value.category, junk, oadd, osub, omul, oand, oor, oxor, odiv, orem, oshl, oshr, oushr, omax, omin]; simp
  refine w_st 8 (W_R w i 3 - W_R w left 3) q (by omega) rfl (fun h' q' => ?_) fun q => ?_
  · obtain ⟨hn, a1, a2, a3, a4, a5, a6, a7⟩ := q'.hd
    obtain ⟨i20, b1, b2', b3, b4⟩ := q'.row hi
    obtain ⟨l20, c1, c2', c3, c4⟩ := q'.row (i := left) (by omega)
    simp only [f_mkF, w_sI, w_sR, w_sL, w_sC, w_sk, w_sbr, w_sco, w_rV, w_rI, w_rR, w_rL, w_dI, w_sO, w_sq, w_si, w_pI, w_pZ, w_pR, w_pU, w_qI, w_qB, w_qZ, w_qU, w_qR, w_kV, q_icst, q_lcst, q_xR, q_ldI, q_ldR, q_ldL, q_bn, q_un, q_dv, q_fI, q_fR, q_aI, q_aR, q_aN, q_tn, q_cmp, q_cmz, q_cnt, q_ctt, q_cand, q_cor, q_vn, q_vI, q_vR, q_vL, q_kI, q_kR, q_kL, q_ckI, envN, argE, List.flatMap_cons, List.flatMap_nil, Value.category, junk, oadd, osub, omul, oand, oor, oxor, odiv, orem, oshl, oshr, oushr, omax, omin]
    simp (disch := first | omega | simp) [rk_i, rk_b, rk_o, st1, kill, Value.category, rcv, nog, hn, b3, b2', b4 3, c3, c2', c4 3]
  refine w_st 9 (nI (i - left + 1)) q (by omega) rfl (fun h' q' => ?_) fun q => ?_
  · simp only [f_mkF, w_sI, w_sR, w_sL, w_sC, w_sk, w_sbr, w_sco, w_rV, w_rI, w_rR, w_rL, w_dI, w_sO, w_sq, w_si, w_pI, w_pZ, w_pR, w_pU, w_qI, w_qB, w_qZ, w_qU, w_qR, w_kV, q_icst, q_lcst, q_xR, q_ldI, q_ldR, q_ldL, q_bn, q_un, q_dv, q_fI, q_fR, q_aI, q_aR, q_aN, q_tn, q_cmp, q_cmz, q_cnt, q_ctt, q_cand, q_cor, q_vn, q_vI, q_vR, q_vL, q_kI, q_kR, q_kL, q_ckI, envN, argE, List.flatMap_cons, List.flatMap_nil, Value.category, junk, oadd, osub, omul, oand, oor, oxor, odiv, orem, oshl, oshr, oushr, omax, omin]
    simp [nI_subc hl, nI_1]
  refine w_st 10 (W_R w i 2) q (by omega) rfl (fun h' q' => ?_) fun q => ?_
  · obtain ⟨hn, a1, a2, a3, a4, a5, a6, a7⟩ := q'.hd
    obtain ⟨i20, b1, b2', b3, b4⟩ := q'.row hi
    simp only [f_mkF, w_sI, w_sR, w_sL, w_sC, w_sk, w_sbr, w_sco, w_rV, w_rI, w_rR, w_rL, w_dI, w_sO, w_sq, w_si, w_pI, w_pZ, w_pR, w_pU, w_qI, w_qB, w_qZ, w_qU, w_qR, w_kV, q_icst, q_lcst, q_xR, q_ldI, q_ldR, q_ldL, q_bn, q_un, q_dv, q_fI, q_fR, q_aI, q_aR, q_aN, q_tn, q_cmp, q_cmz, q_cnt, q_ctt, q_cand, q_cor, q_vn, q_vI, q_vR, q_vL, q_kI, q_kR, q_kL, q_ckI, envN, argE, List.flatMap_cons, List.flatMap_nil, Value.category, junk, oadd, osub, omul, oand, oor, oxor, odiv, orem, oshl, oshr, oushr, omax, omin]
    simp (disch := first | omega | simp) [rk_i, rk_b, rk_o, st1, kill, Value.category, rcv, nog, hn, b3, b2', b4 2]
  refine w_st 11 (W_hm w (W_R w i 1).toNatClampNeg) q (by omega) rfl (fun h' q' => ?_) fun q => ?_
  · obtain ⟨hn, a1, a2, a3, a4, a5, a6, a7⟩ := q'.hd
    obtain ⟨i20, b1, b2', b3, b4⟩ := q'.row hi
    have v := (q'.2.2.2.2.2.2.2.2.2.2.2.1 i hi).2.1
    have v1 : inI (W_R w i 1) 12 = true := ix_of v.1 v.2
    have b0 : h'.2.2 147 0 = some 1 := q'.1.2.1.at 63 rfl
    simp only [f_mkF, w_sI, w_sR, w_sL, w_sC, w_sk, w_sbr, w_sco, w_rV, w_rI, w_rR, w_rL, w_dI, w_sO, w_sq, w_si, w_pI, w_pZ, w_pR, w_pU, w_qI, w_qB, w_qZ, w_qU, w_qR, w_kV, q_icst, q_lcst, q_xR, q_ldI, q_ldR, q_ldL, q_bn, q_un, q_dv, q_fI, q_fR, q_aI, q_aR, q_aN, q_tn, q_cmp, q_cmz, q_cnt, q_ctt, q_cand, q_cor, q_vn, q_vI, q_vR, q_vL, q_kI, q_kR, q_kL, q_ckI, envN, argE, List.flatMap_cons, List.flatMap_nil, Value.category, junk, oadd, osub, omul, oand, oor, oxor, odiv, orem, oshl, oshr, oushr, omax, omin]
    simp (disch := first | omega | simp) [rk_i, rk_b, rk_o, st1, kill, Value.category, rcv, nog, hn, ly147, ly1, b3, b2', b4 1, v1, b0, q'.2.2.2.2.2.2.1]
  refine w_st 12 (W_hm w (frm (W_R w) (W_fo w) left).toNatClampNeg) q (by omega) rfl (fun h' q' => ?_) fun q => ?_
  · obtain ⟨hn, a1, a2, a3, a4, a5, a6, a7⟩ := q'.hd
    have v := frm_ok q'.2.2.2.2.2.2.2.2.2 (i := left) (by omega)
    have v1 : inI (frm (W_R w) (W_fo w) left) 12 = true := ix_of v.1 v.2
    have b0 : h'.2.2 147 0 = some 1 := q'.1.2.1.at 63 rfl
    simp only [f_mkF, w_sI, w_sR, w_sL, w_sC, w_sk, w_sbr, w_sco, w_rV, w_rI, w_rR, w_rL, w_dI, w_sO, w_sq, w_si, w_pI, w_pZ, w_pR, w_pU, w_qI, w_qB, w_qZ, w_qU, w_qR, w_kV, q_icst, q_lcst, q_xR, q_ldI, q_ldR, q_ldL, q_bn, q_un, q_dv, q_fI, q_fR, q_aI, q_aR, q_aN, q_tn, q_cmp, q_cmz, q_cnt, q_ctt, q_cand, q_cor, q_vn, q_vI, q_vR, q_vL, q_kI, q_kR, q_kL, q_ckI, envN, argE, List.flatMap_cons, List.flatMap_nil, Value.category, junk, oadd, osub, omul, oand, oor, oxor, odiv, orem, oshl, oshr, oushr, omax, omin]
    simp (disch := first | omega | simp) [rk_i, rk_b, rk_o, st1, kill, Value.category, rcv, nog, hn, ly147, ly1, a1, a2, a4, v1, b0, q'.2.2.2.2.2.2.1, fq_of (q'.fw (i := left) (by omega))]
  rw [w_rV]
  refine Or.inl ⟨rfl, rfl, rfl, ?_, fun k hk => ?_⟩
  · repeat (first | exact Fr.refl h | refine Fr.w ?_ rfl)
  · match k, hk with
    | 0, _ => simp [wI_i, fct]
    | 1, _ => simp [wI_i, fct]
    | 2, _ => simp [wI_i, fct]
    | 3, _ => simp [wI_i, fct]
    | 4, _ => simp [wI_i, fct]
    | 5, _ => simp [wI_i, fct]
    | 6, _ => simp [wI_i, fct]
    | 7, _ => simp [wI_i, fct]
    | 8, _ => simp [wI_i, fct]
    | 9, _ => simp [wI_i, fct]
    | 10, _ => simp [wI_i, fct]
    | 11, _ => simp [wI_i, fct]
    | 12, _ => simp [wI_i, fct]
