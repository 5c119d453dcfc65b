/-! check -/
/-- the number at that place: its first j bytes -/
def tnm (B : Nat → Int32) (i : Nat) : Nat → Int32
  | 0 => 0
  | j + 1 => oor (oshl (tnm B i j) 8) (oand (B (4 * i + j)) 255)
theorem nI_4 (a : Nat) : 4 * nI a = nI (4 * a) := nI_mul 4 a
theorem x_num {h : Hp} (hp : Ip h) {i : Nat} (hi : i < 50) : F_X8_number [.ref 12, .int (nI i)] h = some (some (.int (tnm (h.2.1 13) i 4)), h) := by
  have hn := hp.1
  have p0 : h.2.2 12 0 = some 13 := hp.2.1.at 21 rfl
  rw [← fq_eq]
  unfold F_X8_number
  refine f_mkE [.ref 12, .int (nI i), junk, junk] rfl (by simp [argE, Value.category]) ?_
  refine w_sqI (E' := [.ref 12, .int (nI i), .int 0, junk]) 0 (by simp only [f_mkF, w_sI, w_sR, w_sL, w_sC, w_sk, w_sbr, w_sco, w_rV, w_rI, w_rR, w_rL, w_dI, w_sO, w_sq, w_si, w_pI, w_pZ, w_pR, w_pU, w_qI, w_qB, w_qZ, w_qU, w_qR, w_kV, q_icst, q_lcst, q_xR, q_ldI, q_ldR, q_ldL, q_bn, q_un, q_dv, q_fI, q_fR, q_aI, q_aR, q_aN, q_tn, q_cmp, q_cmz, q_cnt, q_ctt, q_cand, q_cor, q_vn, q_vI, q_vR, q_vL, q_kI, q_kR, q_kL, q_ckI, envN, argE, List.flatMap_cons, List.flatMap_nil, Value.category, junk, oadd, osub, omul, oand, oor, oxor, odiv, orem, oshl, oshr, oushr, omax, omin]; simp) rfl ?_
  refine w_sq.mpr ?_
  refine w_sqI (E' := [.ref 12, .int (nI i), .int 0, .int (nI (4 * i))]) (nI (4 * i)) (by simp only [f_mkF, w_sI, w_sR, w_sL, w_sC, w_sk, w_sbr, w_sco, w_rV, w_rI, w_rR, w_rL, w_dI, w_sO, w_sq, w_si, w_pI, w_pZ, w_pR, w_pU, w_qI, w_qB, w_qZ, w_qU, w_qR, w_kV, q_icst, q_lcst, q_xR, q_ldI, q_ldR, q_ldL, q_bn, q_un, q_dv, q_fI, q_fR, q_aI, q_aR, q_aN, q_tn, q_cmp, q_cmz, q_cnt, q_ctt, q_cand, q_cor, q_vn, q_vI, q_vR, q_vL, q_kI, q_kR, q_kL, q_ckI, envN, argE, List.flatMap_cons, List.flatMap_nil, Value.category, junk, oadd, osub, omul, oand, oor, oxor, odiv, orem, oshl, oshr, oushr, omax, omin]; simp [nI_4]) rfl ?_
  refine wp_mono (w_lp (Q := fun o _ E1 h' => o = 0 ∧ h' = h ∧ E1[2]? = some (.int (tnm (h.2.1 13) i 4))) (fun k E h' => h' = h ∧ ∃ j, k = 4 - j ∧ j ≤ 4 ∧ E = [.ref 12, .int (nI i), .int (tnm (h.2.1 13) i j), .int (nI (4 * i + j))]) ?_ 4 _ _ ⟨rfl, 0, rfl, by omega, rfl⟩) ?_
  · rintro k E h' ⟨rfl, j, rfl, hj, rfl⟩
    have k4 : nI (4 * i) + 4 = nI (4 * i + 4) := nI_add _ 4
    have k200 : (200 : Int32) = nI 200 := rfl
    by_cases hj4 : j < 4
    · refine ev_T ?_ ⟨fun z => (by cases z), fun _ => ?_⟩
      · simp only [f_mkF, w_sI, w_sR, w_sL, w_sC, w_sk, w_sbr, w_sco, w_rV, w_rI, w_rR, w_rL, w_dI, w_sO, w_sq, w_si, w_pI, w_pZ, w_pR, w_pU, w_qI, w_qB, w_qZ, w_qU, w_qR, w_kV, q_icst, q_lcst, q_xR, q_ldI, q_ldR, q_ldL, q_bn, q_un, q_dv, q_fI, q_fR, q_aI, q_aR, q_aN, q_tn, q_cmp, q_cmz, q_cnt, q_ctt, q_cand, q_cor, q_vn, q_vI, q_vR, q_vL, q_kI, q_kR, q_kL, q_ckI, envN, argE, List.flatMap_cons, List.flatMap_nil, Value.category, junk, oadd, osub, omul, oand, oor, oxor, odiv, orem, oshl, oshr, oushr, omax, omin]
        simp (disch := first | omega | simp) [rk_i, rk_b, rk_o, st1, kill, Value.category, rcv, nog, inI_b, nI_clamp, nI_ltI, nI_leI, nI_eq, nI_9, nI_6, nI_22, nI_12, nI_180, nI_add, nI_1, nI_4, k4, k200, hj4]
        omega
      have jb : 4 * i + j < 200 := by omega
      refine w_sIe (E' := [.ref 12, .int (nI i), .int (tnm (h'.2.1 13) i (j + 1)), .int (nI (4 * i + j))]) (tnm (h'.2.1 13) i (j + 1)) ?_ rfl ⟨fun _ => ?_, (fun z => by cases z), fun z => absurd rfl z⟩
      · simp only [f_mkF, w_sI, w_sR, w_sL, w_sC, w_sk, w_sbr, w_sco, w_rV, w_rI, w_rR, w_rL, w_dI, w_sO, w_sq, w_si, w_pI, w_pZ, w_pR, w_pU, w_qI, w_qB, w_qZ, w_qU, w_qR, w_kV, q_icst, q_lcst, q_xR, q_ldI, q_ldR, q_ldL, q_bn, q_un, q_dv, q_fI, q_fR, q_aI, q_aR, q_aN, q_tn, q_cmp, q_cmz, q_cnt, q_ctt, q_cand, q_cor, q_vn, q_vI, q_vR, q_vL, q_kI, q_kR, q_kL, q_ckI, envN, argE, List.flatMap_cons, List.flatMap_nil, Value.category, junk, oadd, osub, omul, oand, oor, oxor, odiv, orem, oshl, omax, omin]
        simp (disch := first | omega | simp) [rk_i, rk_b, rk_o, st1, kill, Value.category, rcv, nog, inI_b, nI_clamp, nI_ltI, nI_leI, nI_eq, nI_9, nI_6, nI_22, nI_12, nI_180, nI_add, nI_1, hn, ly12, ly13, p0, jb]
        rfl
      refine w_sCe (nI (4 * i + j)) (nI (4 * i + (j + 1))) rfl (nI_1 _) rfl ⟨rfl, 4 - (j + 1), by omega, rfl, j + 1, rfl, by omega, rfl⟩
    · have : j = 4 := by omega
      subst this
      refine ev_F ?_ ⟨fun _ => ⟨rfl, rfl, rfl⟩, fun z => (by cases z)⟩
      simp only [f_mkF, w_sI, w_sR, w_sL, w_sC, w_sk, w_sbr, w_sco, w_rV, w_rI, w_rR, w_rL, w_dI, w_sO, w_sq, w_si, w_pI, w_pZ, w_pR, w_pU, w_qI, w_qB, w_qZ, w_qU, w_qR, w_kV, q_icst, q_lcst, q_xR, q_ldI, q_ldR, q_ldL, q_bn, q_un, q_dv, q_fI, q_fR, q_aI, q_aR, q_aN, q_tn, q_cmp, q_cmz, q_cnt, q_ctt, q_cand, q_cor, q_vn, q_vI, q_vR, q_vL, q_kI, q_kR, q_kL, q_ckI, envN, argE, List.flatMap_cons, List.flatMap_nil, Value.category, junk, oadd, osub, omul, oand, oor, oxor, odiv, orem, oshl, oshr, oushr, omax, omin]
      simp (disch := first | omega | simp) [rk_i, rk_b, rk_o, st1, kill, Value.category, rcv, nog, inI_b, nI_clamp, nI_ltI, nI_leI, nI_eq, nI_9, nI_6, nI_22, nI_12, nI_180, nI_add, nI_1, nI_4, k4]
  · rintro o v E1 h1 ⟨rfl, rfl, e2⟩
    refine ⟨fun _ => ?_, fun z => absurd rfl z⟩
    simp only [f_mkF, w_sI, w_sR, w_sL, w_sC, w_sk, w_sbr, w_sco, w_rV, w_rI, w_rR, w_rL, w_dI, w_sO, w_sq, w_si, w_pI, w_pZ, w_pR, w_pU, w_qI, w_qB, w_qZ, w_qU, w_qR, w_kV, q_icst, q_lcst, q_xR, q_ldI, q_ldR, q_ldL, q_bn, q_un, q_dv, q_fI, q_fR, q_aI, q_aR, q_aN, q_tn, q_cmp, q_cmz, q_cnt, q_ctt, q_cand, q_cor, q_vn, q_vI, q_vR, q_vL, q_kI, q_kR, q_kL, q_ckI, envN, argE, List.flatMap_cons, List.flatMap_nil, Value.category, junk, oadd, osub, omul, oand, oor, oxor, odiv, orem, oshl, oshr, oushr, omax, omin]
    simp [rk_i, rk_b, rk_o, st1, kill, Value.category, rcv, nog, e2]
theorem m_num {h : Hp} (hp : Ip h) {i : Nat} (hi : i < 50) : F_X11_tapeNumber [.ref 166, .int (nI i)] h = some (some (.int (tnm (h.2.1 183) i 4)), h) := by
  have hn := hp.1
  have p0 := hp.2.2 19
  rw [← fq_eq]
  unfold F_X11_tapeNumber
  refine f_mkE [.ref 166, .int (nI i), junk, junk] rfl (by simp [argE, Value.category]) ?_
  refine w_sqI (E' := [.ref 166, .int (nI i), .int 0, junk]) 0 (by simp only [f_mkF, w_sI, w_sR, w_sL, w_sC, w_sk, w_sbr, w_sco, w_rV, w_rI, w_rR, w_rL, w_dI, w_sO, w_sq, w_si, w_pI, w_pZ, w_pR, w_pU, w_qI, w_qB, w_qZ, w_qU, w_qR, w_kV, q_icst, q_lcst, q_xR, q_ldI, q_ldR, q_ldL, q_bn, q_un, q_dv, q_fI, q_fR, q_aI, q_aR, q_aN, q_tn, q_cmp, q_cmz, q_cnt, q_ctt, q_cand, q_cor, q_vn, q_vI, q_vR, q_vL, q_kI, q_kR, q_kL, q_ckI, envN, argE, List.flatMap_cons, List.flatMap_nil, Value.category, junk, oadd, osub, omul, oand, oor, oxor, odiv, orem, oshl, oshr, oushr, omax, omin]; simp) rfl ?_
  refine w_sq.mpr ?_
  refine w_sqI (E' := [.ref 166, .int (nI i), .int 0, .int (nI (4 * i))]) (nI (4 * i)) (by simp only [f_mkF, w_sI, w_sR, w_sL, w_sC, w_sk, w_sbr, w_sco, w_rV, w_rI, w_rR, w_rL, w_dI, w_sO, w_sq, w_si, w_pI, w_pZ, w_pR, w_pU, w_qI, w_qB, w_qZ, w_qU, w_qR, w_kV, q_icst, q_lcst, q_xR, q_ldI, q_ldR, q_ldL, q_bn, q_un, q_dv, q_fI, q_fR, q_aI, q_aR, q_aN, q_tn, q_cmp, q_cmz, q_cnt, q_ctt, q_cand, q_cor, q_vn, q_vI, q_vR, q_vL, q_kI, q_kR, q_kL, q_ckI, envN, argE, List.flatMap_cons, List.flatMap_nil, Value.category, junk, oadd, osub, omul, oand, oor, oxor, odiv, orem, oshl, oshr, oushr, omax, omin]; simp [nI_4]) rfl ?_
  refine wp_mono (w_lp (Q := fun o _ E1 h' => o = 0 ∧ h' = h ∧ E1[2]? = some (.int (tnm (h.2.1 183) i 4))) (fun k E h' => h' = h ∧ ∃ j, k = 4 - j ∧ j ≤ 4 ∧ E = [.ref 166, .int (nI i), .int (tnm (h.2.1 183) i j), .int (nI (4 * i + j))]) ?_ 4 _ _ ⟨rfl, 0, rfl, by omega, rfl⟩) ?_
  · rintro k E h' ⟨rfl, j, rfl, hj, rfl⟩
    have k4 : nI (4 * i) + 4 = nI (4 * i + 4) := nI_add _ 4
    by_cases hj4 : j < 4
    · refine ev_T ?_ ⟨fun z => (by cases z), fun _ => ?_⟩
      · simp only [f_mkF, w_sI, w_sR, w_sL, w_sC, w_sk, w_sbr, w_sco, w_rV, w_rI, w_rR, w_rL, w_dI, w_sO, w_sq, w_si, w_pI, w_pZ, w_pR, w_pU, w_qI, w_qB, w_qZ, w_qU, w_qR, w_kV, q_icst, q_lcst, q_xR, q_ldI, q_ldR, q_ldL, q_bn, q_un, q_dv, q_fI, q_fR, q_aI, q_aR, q_aN, q_tn, q_cmp, q_cmz, q_cnt, q_ctt, q_cand, q_cor, q_vn, q_vI, q_vR, q_vL, q_kI, q_kR, q_kL, q_ckI, envN, argE, List.flatMap_cons, List.flatMap_nil, Value.category, junk, oadd, osub, omul, oand, oor, oxor, odiv, orem, oshl, oshr, oushr, omax, omin]
        simp (disch := first | omega | simp) [rk_i, rk_b, rk_o, st1, kill, Value.category, rcv, nog, inI_b, nI_clamp, nI_ltI, nI_leI, nI_eq, nI_9, nI_6, nI_22, nI_12, nI_180, nI_add, nI_1, nI_4, k4, hj4]
      have jb : 4 * i + j < 200 := by omega
      refine w_sIe (E' := [.ref 166, .int (nI i), .int (tnm (h'.2.1 183) i (j + 1)), .int (nI (4 * i + j))]) (tnm (h'.2.1 183) i (j + 1)) ?_ rfl ⟨fun _ => ?_, (fun z => by cases z), fun z => absurd rfl z⟩
      · simp only [f_mkF, w_sI, w_sR, w_sL, w_sC, w_sk, w_sbr, w_sco, w_rV, w_rI, w_rR, w_rL, w_dI, w_sO, w_sq, w_si, w_pI, w_pZ, w_pR, w_pU, w_qI, w_qB, w_qZ, w_qU, w_qR, w_kV, q_icst, q_lcst, q_xR, q_ldI, q_ldR, q_ldL, q_bn, q_un, q_dv, q_fI, q_fR, q_aI, q_aR, q_aN, q_tn, q_cmp, q_cmz, q_cnt, q_ctt, q_cand, q_cor, q_vn, q_vI, q_vR, q_vL, q_kI, q_kR, q_kL, q_ckI, envN, argE, List.flatMap_cons, List.flatMap_nil, Value.category, junk, oadd, osub, omul, oand, oor, oxor, odiv, orem, oshl, omax, omin]
        simp (disch := first | omega | simp) [rk_i, rk_b, rk_o, st1, kill, Value.category, rcv, nog, inI_b, nI_clamp, nI_ltI, nI_leI, nI_eq, nI_9, nI_6, nI_22, nI_12, nI_180, nI_add, nI_1, hn, ly166, ly183, p0, mp, jb]
        rfl
      refine w_sCe (nI (4 * i + j)) (nI (4 * i + (j + 1))) rfl (nI_1 _) rfl ⟨rfl, 4 - (j + 1), by omega, rfl, j + 1, rfl, by omega, rfl⟩
    · have : j = 4 := by omega
      subst this
      refine ev_F ?_ ⟨fun _ => ⟨rfl, rfl, rfl⟩, fun z => (by cases z)⟩
      simp only [f_mkF, w_sI, w_sR, w_sL, w_sC, w_sk, w_sbr, w_sco, w_rV, w_rI, w_rR, w_rL, w_dI, w_sO, w_sq, w_si, w_pI, w_pZ, w_pR, w_pU, w_qI, w_qB, w_qZ, w_qU, w_qR, w_kV, q_icst, q_lcst, q_xR, q_ldI, q_ldR, q_ldL, q_bn, q_un, q_dv, q_fI, q_fR, q_aI, q_aR, q_aN, q_tn, q_cmp, q_cmz, q_cnt, q_ctt, q_cand, q_cor, q_vn, q_vI, q_vR, q_vL, q_kI, q_kR, q_kL, q_ckI, envN, argE, List.flatMap_cons, List.flatMap_nil, Value.category, junk, oadd, osub, omul, oand, oor, oxor, odiv, orem, oshl, oshr, oushr, omax, omin]
      simp (disch := first | omega | simp) [rk_i, rk_b, rk_o, st1, kill, Value.category, rcv, nog, inI_b, nI_clamp, nI_ltI, nI_leI, nI_eq, nI_9, nI_6, nI_22, nI_12, nI_180, nI_add, nI_1, nI_4, k4]
  · rintro o v E1 h1 ⟨rfl, rfl, e2⟩
    refine ⟨fun _ => ?_, fun z => absurd rfl z⟩
    simp only [f_mkF, w_sI, w_sR, w_sL, w_sC, w_sk, w_sbr, w_sco, w_rV, w_rI, w_rR, w_rL, w_dI, w_sO, w_sq, w_si, w_pI, w_pZ, w_pR, w_pU, w_qI, w_qB, w_qZ, w_qU, w_qR, w_kV, q_icst, q_lcst, q_xR, q_ldI, q_ldR, q_ldL, q_bn, q_un, q_dv, q_fI, q_fR, q_aI, q_aR, q_aN, q_tn, q_cmp, q_cmz, q_cnt, q_ctt, q_cand, q_cor, q_vn, q_vI, q_vR, q_vL, q_kI, q_kR, q_kL, q_ckI, envN, argE, List.flatMap_cons, List.flatMap_nil, Value.category, junk, oadd, osub, omul, oand, oor, oxor, odiv, orem, oshl, oshr, oushr, omax, omin]
    simp [rk_i, rk_b, rk_o, st1, kill, Value.category, rcv, nog, e2]
/-- the first place that is not right; N: how many were told, n: how many passings -/
def chk (p : Nat → Bool) (N n : Nat) : Int32 := match fmo p (min N (n + 1)) 0 with
  | some i => nI i
  | none => if N ≤ n then nI N else if n + 1 < N then nI (n + 1) else -1
/-- the tape is emptied -/
theorem INV_tap {n : Nat} {h : Hp} (q : INV LWc n h) : INV LWc n (wI (wI h 12 1 0) 166 20 0) := by
  have e : ∀ a k, ¬ (a = 12 ∧ k = 1) → ¬ (a = 166 ∧ k = 20) → (wI (wI h 12 1 0) 166 20 0).2.1 a k = h.2.1 a k := fun a k z1 z2 => by rw [wI_i, if_neg z2, wI_i, if_neg z1]
  have rr : (wI (wI h 12 1 0) 166 20 0).2.2 = h.2.2 := rfl
  obtain ⟨q0, q1, q2, q3, q4, ⟨a1, a2, a3⟩, q6, q7, q8, q9, q10⟩ := q
  have sm : ∀ S : Nat → Nat → Prop, ¬ S 12 1 → ¬ S 166 20 → same S h (wI (wI h 12 1 0) 166 20 0) := fun S x1 x2 a k s => e a k (by rintro ⟨rfl, rfl⟩; exact x1 s) (by rintro ⟨rfl, rfl⟩; exact x2 s)
  have hnp := e 166 1 (by omega) (by omega)
  have hw := e 166 0 (by omega) (by omega)
  refine ⟨q0, Iclk_c (sm _ ?_ ?_) q1, Iper_c (sm _ ?_ ?_) q2, Isen_c (sm _ ?_ ?_) q3, Iroa_c (sm _ ?_ ?_) q4, ?itap, Ithi_c (sm _ ?_ ?_) (by rw [hnp]; exact Int.le_refl _) q6, Irow_c (sm _ ?_ ?_) (sameR_of rr) (by rw [hnp]; exact Int.le_refl _) (by rw [hw]; exact Int.le_refl _) q7, Icla_c (sm _ ?_ ?_) (sameR_of rr) q8, LWc_ok _ _ (sm _ ?_ ?_) (sameR_of rr) q9, ?icou⟩
  case itap =>
    refine ⟨by simp [wI_i], by simp [wI_i], fun i => ?_⟩
    rw [e 13 i (by omega) (by omega), e 183 i (by omega) (by omega)]
    exact a3 i
  case icou =>
    refine ⟨by rw [e 147 10 (by omega) (by omega)]; exact q10.1, fun k => ?_⟩
    rw [e 147 10 (by omega) (by omega), e 155 k (by omega) (by omega)]
    exact q10.2 k
  all_goals (simp only [Sclk, Sper, Ssen, Sroa, Stap, Sthi, Srow, Slaw, Scou]; omega)
/-- both have emptied the tape and gone on -/
theorem inv_t {n : Nat} {h h1 h2 : Hp} (q : INV LWc n h) (e1 : h2.1 = h.1) (e2 : ∀ a k, ¬ (a = 147 ∧ k = 12) → h2.2.2 a k = h.2.2 a k) (e3 : ∀ a k, ¬ SQ a k → ¬ (a = 12 ∧ k = 1) → ¬ (a = 166 ∧ k = 20) → h2.2.1 a k = h.2.1 a k) (z1 : h2.2.1 12 1 = 0) (z2 : h2.2.1 166 20 = 0) {c : Nat} (hc : c ≤ 20 * (n + 1)) (ic : IC c h2) : INV LWc (n + 1) h2 := by
  have q' := INV_tap q
  have pp := q.2.2.2.2.2.2.2.2.2.1.2
  refine INV_q q' e1 (fun a k z => e2 a k fun y => z (Or.inl y)) (fun a k z => ?_) ?_ (ic.le hc)
  · rw [wI_i]
    by_cases y1 : a = 166 ∧ k = 20
    · rw [if_pos y1, y1.1, y1.2]; exact z2
    · rw [if_neg y1, wI_i]
      by_cases y2 : a = 12 ∧ k = 1
      · rw [if_pos y2, y2.1, y2.2]; exact z1
      · rw [if_neg y2]; exact e3 a k z y2 y1
  · unfold Ipai at *
    rw [e2 157 3 (by omega), e2 157 4 (by omega)]
    exact pp
def pck (w : Wd) (B : Nat → Int32) (i : Nat) : Bool := decide (tnm B i 4 ≠ if i < W_n w then tlt w 0 (lows w) i else whz w 0)
theorem g_check : AG (INV LWc) F_X10_check F_X11_check 3 := by
  intro n h vs hl hn5 q
  match vs, hl with
  | [a, b, d], _ =>
    have hn := q.1.1
    have v5 : h.2.2 0 5 = some 12 := q.1.2.1.at 5 rfl
    obtain ⟨a1, a2, a3⟩ := q.2.2.2.2.2.1
    have hL := nI_toI a2.1
    have hL2 := clampI a2.1
    generalize hLL : (h.2.1 166 20).toNatClampNeg = L at *
    have hL4 : nI L / 4 = nI (L / 4) := nI_div (by omega) (by omega : (4 : Nat) < 2 ^ 31)
    by_cases hc : (0 ≤ a ∧ a ≤ 5) ∧ (0 ≤ b ∧ b < h.2.1 166 2) ∧ (0 ≤ d ∧ d ≤ nI (L / 4))
    · obtain ⟨f, hf, rfl⟩ := land_num hc.1
      obtain ⟨t, ht, rfl⟩ := th_num q hc.2.1.1 hc.2.1.2
      obtain ⟨N, hN, rfl⟩ : ∃ N, N ≤ L / 4 ∧ d = nI N := by
        have z1 := Int32.le_iff_toInt_le.mp hc.2.2.1
        have z2 := Int32.le_iff_toInt_le.mp hc.2.2.2
        rw [nI_toInt (by omega)] at z2
        have z4 : (0 : Int32).toInt = 0 := rfl
        have z5 := clampI (x := d) (by omega)
        exact ⟨d.toNatClampNeg, by omega, nI_toI (by omega)⟩
      obtain ⟨w, ra, y, m, e72, rfl, hno, -⟩ := wd_of q hf ht hc.2.1.2
      have n20 := m.wv.1
      obtain ⟨p1, p3, -⟩ := ptT q.1 ht
      have p4 : 28 + 22 * t < 212 := by omega
      have X : fq F_X10_check [.ref 0, .int (nI (W_f w)), .int (nI t), .int (nI N)] h fun r h' => r = some (.int (chk (pck w (h.2.1 13)) N (W_n w))) ∧ ∃ h1, Fj h h1 ∧ IC (20 * n + 1) h1 ∧ h' = wI h1 12 1 0 := by
        unfold F_X10_check
        refine f_mkE [.ref 0, .int (nI (W_f w)), .int (nI t), .int (nI N), junk, junk, junk] rfl (by simp [argE, Value.category]) ?_
        refine w_sq.mpr ((w_siF ?_).mpr (w_sk2.mpr ?_))
        · simp only [f_mkF, w_sI, w_sR, w_sL, w_sC, w_sk, w_sbr, w_sco, w_rV, w_rI, w_rR, w_rL, w_dI, w_sO, w_sq, w_si, w_pI, w_pZ, w_pR, w_pU, w_qI, w_qB, w_qZ, w_qU, w_qR, w_kV, q_icst, q_lcst, q_xR, q_ldI, q_ldR, q_ldL, q_bn, q_un, q_dv, q_fI, q_fR, q_aI, q_aR, q_aN, q_tn, q_cmp, q_cmz, q_cnt, q_ctt, q_cand, q_cor, q_vn, q_vI, q_vR, q_vL, q_kI, q_kR, q_kL, q_ckI, envN, argE, List.flatMap_cons, List.flatMap_nil, Value.category, junk, oadd, osub, omul, oand, oor, oxor, odiv, orem, oshl, oshr, oushr, omax, omin]
          simp (disch := first | omega | simp) [rk_i, rk_b, rk_o, st1, kill, Value.category, rcv, nog, inI_b, nI_clamp, nI_ltI, nI_leI, nI_eq, nI_9, nI_6, nI_22, nI_12, nI_180, nI_add, nI_1, hn, ly0, ly12, v5, a1, hL, hL4, fq_of (e_x_isLand _ _), fq_of (i_x_isThing q _), fq_of (e_x_isWithin _ _ _ _), b2_0, hc, zne, zeq]
          try grind
        refine w_fz fun B hB C hC => ?_
        simp only [f_mkF, w_sI, w_sR, w_sL, w_sC, w_sk, w_sbr, w_sco, w_rV, w_rI, w_rR, w_rL, w_dI, w_sO, w_sq, w_si, w_pI, w_pZ, w_pR, w_pU, w_qI, w_qB, w_qZ, w_qU, w_qR, w_kV, q_icst, q_lcst, q_xR, q_ldI, q_ldR, q_ldL, q_bn, q_un, q_dv, q_fI, q_fR, q_aI, q_aR, q_aN, q_tn, q_cmp, q_cmz, q_cnt, q_ctt, q_cand, q_cor, q_vn, q_vI, q_vR, q_vL, q_kI, q_kR, q_kL, q_ckI, envN, argE, List.flatMap_cons, List.flatMap_nil, Value.category, junk, oadd, osub, omul, oand, oor, oxor, odiv, orem, oshl, oshr, oushr, omax, omin]
        simp (disch := first | omega | simp) [rk_i, rk_b, rk_o, st1, kill, Value.category, rcv, nog, inI_b, nI_clamp, nI_ltI, nI_leI, nI_eq, nI_9, nI_6, nI_22, nI_12, nI_180, nI_add, nI_1, hn, ly0]
        refine fq_mono (x_judge y (by omega) (inv_ic q) ht rfl (by rw [q.2.1.1, hno])) ?_
        rintro r h1 ⟨rfl, fj, ic, cx, -, hX, -⟩
        simp [rk_i, rk_b, rk_o, st1, kill, Value.category, rcv, nog]
        subst hB hC
        have hn1 := cx.1.1
        have p2' : h1.2.2 0 2 = some 3 := cx.1.2.1.at 2 rfl
        obtain ⟨p1', p3', -⟩ := ptT cx.1 ht
        have a7 := cx.hd.2.2.2.2.2.2.2
        (refine w_fz fun B hB C hC => ?_); (simp only [f_mkF, w_sI, w_sR, w_sL, w_sC, w_sk, w_sbr, w_sco, w_rV, w_rI, w_rR, w_rL, w_dI, w_sO, w_sq, w_si, w_pI, w_pZ, w_pR, w_pU, w_qI, w_qB, w_qZ, w_qU, w_qR, w_kV, q_icst, q_lcst, q_xR, q_ldI, q_ldR, q_ldL, q_bn, q_un, q_dv, q_fI, q_fR, q_aI, q_aR, q_aN, q_tn, q_cmp, q_cmz, q_cnt, q_ctt, q_cand, q_cor, q_vn, q_vI, q_vR, q_vL, q_kI, q_kR, q_kL, q_ckI, envN, argE, List.flatMap_cons, List.flatMap_nil, Value.category, junk, oadd, osub, omul, oand, oor, oxor, odiv, orem, oshl, oshr, oushr, omax, omin]); (simp (disch := first | omega | simp) [rk_i, rk_b, rk_o, st1, kill, Value.category, rcv, nog, inI_b, nI_clamp, nI_ltI, nI_leI, nI_eq, nI_9, nI_6, nI_22, nI_12, nI_180, nI_add, nI_1, hn1, ly0, ly3, p2', p1', p3', p4, ht, a7]); (subst hB hC)
        have p5' : h1.2.2 0 5 = some 12 := cx.1.2.1.at 5 rfl
        (refine w_fz fun B hB C hC => ?_); (simp only [f_mkF, w_sI, w_sR, w_sL, w_sC, w_sk, w_sbr, w_sco, w_rV, w_rI, w_rR, w_rL, w_dI, w_sO, w_sq, w_si, w_pI, w_pZ, w_pR, w_pU, w_qI, w_qB, w_qZ, w_qU, w_qR, w_kV, q_icst, q_lcst, q_xR, q_ldI, q_ldR, q_ldL, q_bn, q_un, q_dv, q_fI, q_fR, q_aI, q_aR, q_aN, q_tn, q_cmp, q_cmz, q_cnt, q_ctt, q_cand, q_cor, q_vn, q_vI, q_vR, q_vL, q_kI, q_kR, q_kL, q_ckI, envN, argE, List.flatMap_cons, List.flatMap_nil, Value.category, junk, oadd, osub, omul, oand, oor, oxor, odiv, orem, oshl, oshr, oushr, omax, omin]); (simp (disch := first | omega | simp) [rk_i, rk_b, rk_o, st1, kill, Value.category, rcv, nog, inI_b, nI_clamp, nI_ltI, nI_leI, nI_eq, nI_9, nI_6, nI_22, nI_12, nI_180, nI_add, nI_1, hn1, ly0, ly12, p5']); (subst hB hC)
        have e13 : h1.2.1 13 = h.2.1 13 := funext fun k => fj.2.2 13 k (by unfold SJ SX; omega)
        have ip2 : Ip (wI h1 12 1 0) := cx.1
        have e13' : (wI h1 12 1 0).2.1 13 = h.2.1 13 := by rw [wI_o (by decide)]; exact e13
        have e52 : ∀ k, k < W_n w → (wI h1 12 1 0).2.1 152 k = tlt w 0 (lows w) k := fun k hk => by rw [wI_o (by decide)]; exact (hX.2 k hk).1
        have hP : ∀ r, r = chk (pck w (h.2.1 13)) N (W_n w) → (some (Value.int r) = some (.int (chk (pck w (h.2.1 13)) N (W_n w))) ∧ ∃ h2, Fj h h2 ∧ IC (20 * n + 1) h2 ∧ wI h1 12 1 0 = wI h2 12 1 0) := fun r z => ⟨by rw [z], h1, fj, ic, rfl⟩
        generalize hh2 : wI h1 12 1 0 = h2 at *
        have hn2 := ip2.1
        have p5'' : h2.2.2 0 5 = some 12 := ip2.2.1.at 5 rfl
        have p8'' : h2.2.2 0 8 = some 147 := ip2.2.1.at 8 rfl
        have p55 : h2.2.2 147 5 = some 152 := ip2.2.1.at 68 rfl
        refine w_sq.mpr ?_
        refine w_sqI (E' := [.ref 0, .int (nI (W_f w)), .int (nI t), .int (nI N), .int (whz w 0), .int (nI (W_n w)), .int (nI 0)]) (nI 0) (by simp only [f_mkF, w_sI, w_sR, w_sL, w_sC, w_sk, w_sbr, w_sco, w_rV, w_rI, w_rR, w_rL, w_dI, w_sO, w_sq, w_si, w_pI, w_pZ, w_pR, w_pU, w_qI, w_qB, w_qZ, w_qU, w_qR, w_kV, q_icst, q_lcst, q_xR, q_ldI, q_ldR, q_ldL, q_bn, q_un, q_dv, q_fI, q_fR, q_aI, q_aR, q_aN, q_tn, q_cmp, q_cmz, q_cnt, q_ctt, q_cand, q_cor, q_vn, q_vI, q_vR, q_vL, q_kI, q_kR, q_kL, q_ckI, envN, argE, List.flatMap_cons, List.flatMap_nil, Value.category, junk, oadd, osub, omul, oand, oor, oxor, odiv, orem, oshl, oshr, oushr, omax, omin]; simp [rk_i, rk_b, rk_o, st1, kill, Value.category, rcv, nog, nI_0]) rfl ?_
        refine wp_mono (w_lp (Q := fun o v E1 h' => h' = h2 ∧ ((o = 2 ∧ v = .int (chk (pck w (h.2.1 13)) N (W_n w))) ∨ (o = 0 ∧ E1 = [.ref 0, .int (nI (W_f w)), .int (nI t), .int (nI N), .int (whz w 0), .int (nI (W_n w)), .int (nI N)] ∧ chk (pck w (h.2.1 13)) N (W_n w) = if N ≤ W_n w then nI N else -1))) (fun k E h' => h' = h2 ∧ ∃ i, k = N - i ∧ i ≤ N ∧ i ≤ W_n w + 1 ∧ E = [.ref 0, .int (nI (W_f w)), .int (nI t), .int (nI N), .int (whz w 0), .int (nI (W_n w)), .int (nI i)] ∧ fmo (pck w (h.2.1 13)) (min N (W_n w + 1)) 0 = fmo (pck w (h.2.1 13)) (min N (W_n w + 1) - i) i) ?_ N _ _ ⟨rfl, 0, rfl, by omega, by omega, rfl, rfl⟩) ?_
        · rintro k E h' ⟨rfl, i, rfl, hi1, hi2, rfl, hf2⟩
          by_cases hiN : i < N
          · refine ev_T ?_ ⟨fun z => (by cases z), fun _ => ?_⟩
            · simp only [f_mkF, w_sI, w_sR, w_sL, w_sC, w_sk, w_sbr, w_sco, w_rV, w_rI, w_rR, w_rL, w_dI, w_sO, w_sq, w_si, w_pI, w_pZ, w_pR, w_pU, w_qI, w_qB, w_qZ, w_qU, w_qR, w_kV, q_icst, q_lcst, q_xR, q_ldI, q_ldR, q_ldL, q_bn, q_un, q_dv, q_fI, q_fR, q_aI, q_aR, q_aN, q_tn, q_cmp, q_cmz, q_cnt, q_ctt, q_cand, q_cor, q_vn, q_vI, q_vR, q_vL, q_kI, q_kR, q_kL, q_ckI, envN, argE, List.flatMap_cons, List.flatMap_nil, Value.category, junk, oadd, osub, omul, oand, oor, oxor, odiv, orem, oshl, oshr, oushr, omax, omin]
              simp (disch := first | omega | simp) [rk_i, rk_b, rk_o, st1, kill, Value.category, rcv, nog, inI_b, nI_clamp, nI_ltI, nI_leI, nI_eq, nI_9, nI_6, nI_22, nI_12, nI_180, nI_add, nI_1, hiN]
            by_cases hin : i ≤ W_n w
            · have i50 : i < 50 := by omega
              have en := x_num ip2 i50
              rw [e13'] at en
              obtain ⟨c, hcc⟩ : ∃ c, min N (W_n w + 1) - i = c + 1 := ⟨min N (W_n w + 1) - i - 1, by omega⟩
              rw [hcc, fmo] at hf2
              have hin' : ¬ nI i > nI (W_n w) := by
                intro z
                have z2 := Int32.lt_iff_toInt_lt.mp z
                rw [nI_toInt (by omega), nI_toInt (by omega)] at z2
                omega
              have hval : ev (tn (cnt (cmp oge (ldI 6) (ldI 5))) (aI 13 (fR 1 5 (fR 10 8 (ldR 0))) (ldI 6)) (ldI 4)) [.ref 0, .int (nI (W_f w)), .int (nI t), .int (nI N), .int (whz w 0), .int (nI (W_n w)), .int (nI i)] h' fun x h3 => x = (if i < W_n w then tlt w 0 (lows w) i else whz w 0) ∧ h3 = h' := by
                simp only [f_mkF, w_sI, w_sR, w_sL, w_sC, w_sk, w_sbr, w_sco, w_rV, w_rI, w_rR, w_rL, w_dI, w_sO, w_sq, w_si, w_pI, w_pZ, w_pR, w_pU, w_qI, w_qB, w_qZ, w_qU, w_qR, w_kV, q_icst, q_lcst, q_xR, q_ldI, q_ldR, q_ldL, q_bn, q_un, q_dv, q_fI, q_fR, q_aI, q_aR, q_aN, q_tn, q_cmp, q_cmz, q_cnt, q_ctt, q_cand, q_cor, q_vn, q_vI, q_vR, q_vL, q_kI, q_kR, q_kL, q_ckI, envN, argE, List.flatMap_cons, List.flatMap_nil, Value.category, junk, oadd, osub, omul, oand, oor, oxor, odiv, orem, oshl, oshr, oushr, omax, omin]
                by_cases hlt : i < W_n w
                · simp (disch := first | omega | simp) [rk_i, rk_b, rk_o, st1, kill, Value.category, rcv, nog, inI_b, nI_clamp, nI_ltI, nI_leI, nI_eq, nI_9, nI_6, nI_22, nI_12, nI_180, nI_add, nI_1, hn2, ly0, ly147, ly152, p8'', p55, hlt, e52 i hlt]
                  try omega
                · simp (disch := first | omega | simp) [rk_i, rk_b, rk_o, st1, kill, Value.category, rcv, nog, inI_b, nI_clamp, nI_ltI, nI_leI, nI_eq, nI_9, nI_6, nI_22, nI_12, nI_180, nI_add, nI_1, hlt]
                  try omega
              have hcond : ev (cor (cmp ogt (ldI 6) (ldI 5)) (cnt (cmp oeq (kI (rcv 8) F_X8_number (vI (vR vn (fR 10 5 (ldR 0))) (ldI 6))) (tn (cnt (cmp oge (ldI 6) (ldI 5))) (aI 13 (fR 1 5 (fR 10 8 (ldR 0))) (ldI 6)) (ldI 4))))) [.ref 0, .int (nI (W_f w)), .int (nI t), .int (nI N), .int (whz w 0), .int (nI (W_n w)), .int (nI i)] h' fun x h3 => x = pck w (h.2.1 13) i ∧ h3 = h' := by
                rw [q_cor, q_cmp, q_ldI]
                refine ⟨_, rfl, ?_⟩
                rw [q_ldI]
                refine ⟨_, rfl, fun z => ?_, fun _ => ?_⟩
                · have z2 : nI i > nI (W_n w) := by simpa using z
                  exact absurd z2 hin'
                · rw [q_cnt, q_cmp]
                  refine q_kIe [.ref 12, .int (nI i)] (by simp only [f_mkF, w_sI, w_sR, w_sL, w_sC, w_sk, w_sbr, w_sco, w_rV, w_rI, w_rR, w_rL, w_dI, w_sO, w_sq, w_si, w_pI, w_pZ, w_pR, w_pU, w_qI, w_qB, w_qZ, w_qU, w_qR, w_kV, q_icst, q_lcst, q_xR, q_ldI, q_ldR, q_ldL, q_bn, q_un, q_dv, q_fI, q_fR, q_aI, q_aR, q_aN, q_tn, q_cmp, q_cmz, q_cnt, q_ctt, q_cand, q_cor, q_vn, q_vI, q_vR, q_vL, q_kI, q_kR, q_kL, q_ckI, envN, argE, List.flatMap_cons, List.flatMap_nil, Value.category, junk, oadd, osub, omul, oand, oor, oxor, odiv, orem, oshl, oshr, oushr, omax, omin]; simp [rk_i, rk_b, rk_o, st1, kill, Value.category, rcv, nog, hn2, ly0, p5'']) (by simp [rcv, hn2, ly12]) ?_
                  rw [fq_of en]
                  refine ⟨_, rfl, ?_⟩
                  refine ev_mono hval ?_
                  rintro x h3 ⟨rfl, rfl⟩
                  refine ⟨?_, rfl⟩
                  unfold pck
                  simp
              refine w_siN _ hcond (fun hb => ?_) (fun hb => ?_)
              · rw [if_pos hb] at hf2
                simp only [f_mkF, w_sI, w_sR, w_sL, w_sC, w_sk, w_sbr, w_sco, w_rV, w_rI, w_rR, w_rL, w_dI, w_sO, w_sq, w_si, w_pI, w_pZ, w_pR, w_pU, w_qI, w_qB, w_qZ, w_qU, w_qR, w_kV, q_icst, q_lcst, q_xR, q_ldI, q_ldR, q_ldL, q_bn, q_un, q_dv, q_fI, q_fR, q_aI, q_aR, q_aN, q_tn, q_cmp, q_cmz, q_cnt, q_ctt, q_cand, q_cor, q_vn, q_vI, q_vR, q_vL, q_kI, q_kR, q_kL, q_ckI, envN, argE, List.flatMap_cons, List.flatMap_nil, Value.category, junk, oadd, osub, omul, oand, oor, oxor, odiv, orem, oshl, oshr, oushr, omax, omin]
                simp
                unfold chk
                rw [hf2]
              · rw [if_neg (by rw [hb]; simp)] at hf2
                rw [w_sk]
                refine ⟨fun _ => w_sCe (nI i) (nI (i + 1)) rfl (nI_1 _) rfl ⟨rfl, N - (i + 1), by omega, rfl, i + 1, rfl, by omega, by omega, rfl, ?_⟩, (fun z => by cases z), fun z => absurd rfl z⟩
                rw [hf2, show min N (W_n w + 1) - (i + 1) = c by omega]
            · have hi3 : i = W_n w + 1 := by omega
              have hgt : nI (W_n w) < nI i := by rw [nI_ltI (by omega) (by omega)]; omega
              refine (w_siT ?_).mpr ?_
              · simp only [f_mkF, w_sI, w_sR, w_sL, w_sC, w_sk, w_sbr, w_sco, w_rV, w_rI, w_rR, w_rL, w_dI, w_sO, w_sq, w_si, w_pI, w_pZ, w_pR, w_pU, w_qI, w_qB, w_qZ, w_qU, w_qR, w_kV, q_icst, q_lcst, q_xR, q_ldI, q_ldR, q_ldL, q_bn, q_un, q_dv, q_fI, q_fR, q_aI, q_aR, q_aN, q_tn, q_cmp, q_cmz, q_cnt, q_ctt, q_cand, q_cor, q_vn, q_vI, q_vR, q_vL, q_kI, q_kR, q_kL, q_ckI, envN, argE, List.flatMap_cons, List.flatMap_nil, Value.category, junk, oadd, osub, omul, oand, oor, oxor, odiv, orem, oshl, oshr, oushr, omax, omin]
                simp [hgt]
                first | done | exact fun z => absurd hgt (Int32.not_lt.mpr z)
              · simp only [f_mkF, w_sI, w_sR, w_sL, w_sC, w_sk, w_sbr, w_sco, w_rV, w_rI, w_rR, w_rL, w_dI, w_sO, w_sq, w_si, w_pI, w_pZ, w_pR, w_pU, w_qI, w_qB, w_qZ, w_qU, w_qR, w_kV, q_icst, q_lcst, q_xR, q_ldI, q_ldR, q_ldL, q_bn, q_un, q_dv, q_fI, q_fR, q_aI, q_aR, q_aN, q_tn, q_cmp, q_cmz, q_cnt, q_ctt, q_cand, q_cor, q_vn, q_vI, q_vR, q_vL, q_kI, q_kR, q_kL, q_ckI, envN, argE, List.flatMap_cons, List.flatMap_nil, Value.category, junk, oadd, osub, omul, oand, oor, oxor, odiv, orem, oshl, oshr, oushr, omax, omin]
                simp
                unfold chk
                rw [hf2, show min N (W_n w + 1) - i = 0 by omega]
                show nI i = if N ≤ W_n w then nI N else if W_n w + 1 < N then nI (W_n w + 1) else -1
                rw [if_neg (by omega), if_pos (by omega), hi3]
          · have hiN2 : i = N := by omega
            subst hiN2
            refine ev_F ?_ ⟨fun _ => ⟨rfl, Or.inr ⟨rfl, rfl, ?_⟩⟩, fun z => (by cases z)⟩
            · simp only [f_mkF, w_sI, w_sR, w_sL, w_sC, w_sk, w_sbr, w_sco, w_rV, w_rI, w_rR, w_rL, w_dI, w_sO, w_sq, w_si, w_pI, w_pZ, w_pR, w_pU, w_qI, w_qB, w_qZ, w_qU, w_qR, w_kV, q_icst, q_lcst, q_xR, q_ldI, q_ldR, q_ldL, q_bn, q_un, q_dv, q_fI, q_fR, q_aI, q_aR, q_aN, q_tn, q_cmp, q_cmz, q_cnt, q_ctt, q_cand, q_cor, q_vn, q_vI, q_vR, q_vL, q_kI, q_kR, q_kL, q_ckI, envN, argE, List.flatMap_cons, List.flatMap_nil, Value.category, junk, oadd, osub, omul, oand, oor, oxor, odiv, orem, oshl, oshr, oushr, omax, omin]
              simp (disch := first | omega | simp) [rk_i, rk_b, rk_o, st1, kill, Value.category, rcv, nog, inI_b, nI_clamp, nI_ltI, nI_leI, nI_eq, nI_9, nI_6, nI_22, nI_12, nI_180, nI_add, nI_1]
            · unfold chk
              rw [hf2, show min i (W_n w + 1) - i = 0 by omega]
              show (if i ≤ W_n w then nI i else if W_n w + 1 < i then nI (W_n w + 1) else -1) = _
              rw [if_neg (show ¬ W_n w + 1 < i by omega)]
        · rintro o v E1 h3 ⟨rfl, ⟨rfl, rfl⟩ | ⟨rfl, rfl, hk⟩⟩
          · exact ⟨fun z => (by cases z), fun _ => Or.inr ⟨rfl, rfl, hP _ rfl⟩⟩
          · refine ⟨fun _ => ?_, fun z => absurd rfl z⟩
            have hv : ev (tn (cnt (cmp ogt (ldI 3) (ldI 5))) (ldI 3) (icst (-1))) [.ref 0, .int (nI (W_f w)), .int (nI t), .int (nI N), .int (whz w 0), .int (nI (W_n w)), .int (nI N)] h3 fun x h4 => x = (if N ≤ W_n w then nI N else -1) ∧ h4 = h3 := by
              simp only [f_mkF, w_sI, w_sR, w_sL, w_sC, w_sk, w_sbr, w_sco, w_rV, w_rI, w_rR, w_rL, w_dI, w_sO, w_sq, w_si, w_pI, w_pZ, w_pR, w_pU, w_qI, w_qB, w_qZ, w_qU, w_qR, w_kV, q_icst, q_lcst, q_xR, q_ldI, q_ldR, q_ldL, q_bn, q_un, q_dv, q_fI, q_fR, q_aI, q_aR, q_aN, q_tn, q_cmp, q_cmz, q_cnt, q_ctt, q_cand, q_cor, q_vn, q_vI, q_vR, q_vL, q_kI, q_kR, q_kL, q_ckI, envN, argE, List.flatMap_cons, List.flatMap_nil, Value.category, junk, oadd, osub, omul, oand, oor, oxor, odiv, orem, oshl, oshr, oushr, omax, omin]
              by_cases hz : N ≤ W_n w
              · simp (disch := first | omega | simp) [rk_i, rk_b, rk_o, st1, kill, Value.category, rcv, nog, inI_b, nI_clamp, nI_ltI, nI_leI, nI_eq, nI_9, nI_6, nI_22, nI_12, nI_180, nI_add, nI_1, hz]
                first | done | (intro z; omega)
              · simp (disch := first | omega | simp) [rk_i, rk_b, rk_o, st1, kill, Value.category, rcv, nog, inI_b, nI_clamp, nI_ltI, nI_leI, nI_eq, nI_9, nI_6, nI_22, nI_12, nI_180, nI_add, nI_1, hz]
                first | done | (intro z; omega)
            rw [w_rI]
            refine ev_mono hv ?_
            rintro x h4 ⟨rfl, rfl⟩
            exact Or.inr ⟨rfl, rfl, hP _ hk.symm⟩
      obtain ⟨r, h1, e1, rfl, hj, fj, ic, hh1⟩ := X
      have f1 : Fr (fun a k => a = 12 ∧ k = 1) hj h1 := by rw [hh1]; exact (Fr.refl hj).w ⟨rfl, rfl⟩
      have z12 : h1.2.1 12 1 = 0 := by rw [hh1]; simp [wI_i]
      clear hh1
      have m1 : MX w t h1 := (m.fj fj).gen (f1.ip (m.fj fj).1) fun a k z => f1.2.2 a k (by omega)
      have hn1 := m1.1.1
      have e72' : h1.2.1 172 t = nI (W_n w) := (f1.2.2 172 t (by omega)).trans ((fj.2.2 172 t (by unfold SJ SX; omega)).trans e72)
      have e2' : h1.2.1 166 2 = h.2.1 166 2 := (f1.2.2 166 2 (by omega)).trans (fj.2.2 166 2 (by unfold SJ SX; omega))
      have e20 : h1.2.1 166 20 = nI L := ((f1.2.2 166 20 (by omega)).trans (fj.2.2 166 20 (by unfold SJ SX; omega))).trans hL
      have e83 : h1.2.1 183 = h.2.1 13 := funext fun k => ((f1.2.2 183 k (by omega)).trans (fj.2.2 183 k (by unfold SJ SX; omega))).trans (a3 k).symm
      have Y : fq F_X11_check [.ref 166, .int (nI (W_f w)), .int (nI t), .int (nI N)] h1 fun r h' => r = some (.int (chk (pck w (h.2.1 13)) N (W_n w))) ∧ Fr (fun a k => SN a k ∨ (a = 166 ∧ k = 20)) h1 h' ∧ h'.2.1 166 20 = 0 := by
        have hle : nI N ≤ nI (L / 4) := hc.2.2.2
        have hge : ¬ nI N < 0 := Int32.not_lt.mpr hc.2.2.1
        unfold F_X11_check
        refine f_mkE [.ref 166, .int (nI (W_f w)), .int (nI t), .int (nI N), junk] rfl (by simp [argE, Value.category]) ?_
        refine w_sq.mpr ((w_siF ?_).mpr (w_sk2.mpr ?_))
        · simp only [f_mkF, w_sI, w_sR, w_sL, w_sC, w_sk, w_sbr, w_sco, w_rV, w_rI, w_rR, w_rL, w_dI, w_sO, w_sq, w_si, w_pI, w_pZ, w_pR, w_pU, w_qI, w_qB, w_qZ, w_qU, w_qR, w_kV, q_icst, q_lcst, q_xR, q_ldI, q_ldR, q_ldL, q_bn, q_un, q_dv, q_fI, q_fR, q_aI, q_aR, q_aN, q_tn, q_cmp, q_cmz, q_cnt, q_ctt, q_cand, q_cor, q_vn, q_vI, q_vR, q_vL, q_kI, q_kR, q_kL, q_ckI, envN, argE, List.flatMap_cons, List.flatMap_nil, Value.category, junk, oadd, osub, omul, oand, oor, oxor, odiv, orem, oshl, oshr, oushr, omax, omin]
          simp (disch := first | omega | simp) [rk_i, rk_b, rk_o, st1, kill, Value.category, rcv, nog, inI_b, nI_clamp, nI_ltI, nI_leI, nI_eq, nI_9, nI_6, nI_22, nI_12, nI_180, nI_add, nI_1, hn1, ly166, fq_of (m_can hn1 _ _), b2_0, e2', e20, hL4, hc, zne, zeq, zlt, ole]
          try grind
        (refine w_fz fun B hB C hC => ?_); (simp only [f_mkF, w_sI, w_sR, w_sL, w_sC, w_sk, w_sbr, w_sco, w_rV, w_rI, w_rR, w_rL, w_dI, w_sO, w_sq, w_si, w_pI, w_pZ, w_pR, w_pU, w_qI, w_qB, w_qZ, w_qU, w_qR, w_kV, q_icst, q_lcst, q_xR, q_ldI, q_ldR, q_ldL, q_bn, q_un, q_dv, q_fI, q_fR, q_aI, q_aR, q_aN, q_tn, q_cmp, q_cmz, q_cnt, q_ctt, q_cand, q_cor, q_vn, q_vI, q_vR, q_vL, q_kI, q_kR, q_kL, q_ckI, envN, argE, List.flatMap_cons, List.flatMap_nil, Value.category, junk, oadd, osub, omul, oand, oor, oxor, odiv, orem, oshl, oshr, oushr, omax, omin]); (simp (disch := first | omega | simp) [rk_i, rk_b, rk_o, st1, kill, Value.category, rcv, nog, inI_b, nI_clamp, nI_ltI, nI_leI, nI_eq, nI_9, nI_6, nI_22, nI_12, nI_180, nI_add, nI_1, hn1, ly166]); (subst hB hC)
        have f2 : Fr (fun a k => SN a k ∨ (a = 166 ∧ k = 20)) h1 (wI h1 166 20 0) := (Fr.refl h1).w (Or.inr ⟨rfl, rfl⟩)
        have z20 : (wI h1 166 20 0).2.1 166 20 = 0 := by simp [wI_i]
        generalize wI h1 166 20 0 = h2 at *
        have m2 : MX w t h2 := m1.gen (f2.ip m1.1) fun a k z => f2.2.2 a k (by unfold SN SM; omega)
        have hn2 := m2.1.1
        have f272 : h2.2.1 172 t = nI (W_n w) := (f2.2.2 172 t (by unfold SN SM; omega)).trans e72'
        refine w_fz fun B hB C hC => ?_
        simp only [f_mkF, w_sI, w_sR, w_sL, w_sC, w_sk, w_sbr, w_sco, w_rV, w_rI, w_rR, w_rL, w_dI, w_sO, w_sq, w_si, w_pI, w_pZ, w_pR, w_pU, w_qI, w_qB, w_qZ, w_qU, w_qR, w_kV, q_icst, q_lcst, q_xR, q_ldI, q_ldR, q_ldL, q_bn, q_un, q_dv, q_fI, q_fR, q_aI, q_aR, q_aN, q_tn, q_cmp, q_cmz, q_cnt, q_ctt, q_cand, q_cor, q_vn, q_vI, q_vR, q_vL, q_kI, q_kR, q_kL, q_ckI, envN, argE, List.flatMap_cons, List.flatMap_nil, Value.category, junk, oadd, osub, omul, oand, oor, oxor, odiv, orem, oshl, oshr, oushr, omax, omin]
        simp (disch := first | omega | simp) [rk_i, rk_b, rk_o, st1, kill, Value.category, rcv, nog, inI_b, nI_clamp, nI_ltI, nI_leI, nI_eq, nI_9, nI_6, nI_22, nI_12, nI_180, nI_add, nI_1, hn2, ly166]
        refine fq_mono (m_judges m2 f272) ?_
        rintro r h3 ⟨rfl, f3, hR, e51, -⟩
        simp
        subst hB hC
        have m3 := m2.frn f3
        have hn3 := m3.1.1
        have hm3 : ∀ k, h3.2.2 166 k = mp k := m3.1.2.2
        have f4 : Fr (fun a k => SN a k ∨ (a = 166 ∧ k = 20)) h1 h3 := f2.trans (f3.sub fun a k z => Or.inl z)
        have z20' : h3.2.1 166 20 = 0 := (f3.2.2 166 20 (by unfold SN SM; omega)).trans z20
        have e72'' : h3.2.1 172 t = nI (W_n w) := (f3.2.2 172 t (by unfold SN SM; omega)).trans f272
        have e83' : h3.2.1 183 = h.2.1 13 := by
          rw [← e83]
          exact funext fun k => f4.2.2 183 k (by unfold SN SM; omega)
        have hP : ∀ r, r = chk (pck w (h.2.1 13)) N (W_n w) → (some (Value.int r) = some (.int (chk (pck w (h.2.1 13)) N (W_n w))) ∧ Fr (fun a k => SN a k ∨ (a = 166 ∧ k = 20)) h1 h3 ∧ h3.2.1 166 20 = 0) := fun r z => ⟨by rw [z], f4, z20'⟩
        refine w_sq.mpr ?_
        refine w_sqI (E' := [.ref 166, .int (nI (W_f w)), .int (nI t), .int (nI N), .int (nI 0)]) (nI 0) (by simp only [f_mkF, w_sI, w_sR, w_sL, w_sC, w_sk, w_sbr, w_sco, w_rV, w_rI, w_rR, w_rL, w_dI, w_sO, w_sq, w_si, w_pI, w_pZ, w_pR, w_pU, w_qI, w_qB, w_qZ, w_qU, w_qR, w_kV, q_icst, q_lcst, q_xR, q_ldI, q_ldR, q_ldL, q_bn, q_un, q_dv, q_fI, q_fR, q_aI, q_aR, q_aN, q_tn, q_cmp, q_cmz, q_cnt, q_ctt, q_cand, q_cor, q_vn, q_vI, q_vR, q_vL, q_kI, q_kR, q_kL, q_ckI, envN, argE, List.flatMap_cons, List.flatMap_nil, Value.category, junk, oadd, osub, omul, oand, oor, oxor, odiv, orem, oshl, oshr, oushr, omax, omin]; simp [rk_i, rk_b, rk_o, st1, kill, Value.category, rcv, nog, nI_0]) rfl ?_
        refine wp_mono (w_lp (Q := fun o v E1 h' => h' = h3 ∧ ((o = 2 ∧ v = .int (chk (pck w (h.2.1 13)) N (W_n w))) ∨ (o = 0 ∧ (∃ x, E1 = [.ref 166, .int (nI (W_f w)), .int (nI t), .int (nI N), x]) ∧ chk (pck w (h.2.1 13)) N (W_n w) = if W_n w + 1 < N then nI (W_n w + 1) else -1))) (fun k E h' => h' = h3 ∧ ∃ i, k = W_n w + 1 - i ∧ i ≤ N ∧ i ≤ W_n w + 1 ∧ E = [.ref 166, .int (nI (W_f w)), .int (nI t), .int (nI N), .int (nI i)] ∧ fmo (pck w (h.2.1 13)) (min N (W_n w + 1)) 0 = fmo (pck w (h.2.1 13)) (min N (W_n w + 1) - i) i) ?_ (W_n w + 1) _ _ ⟨rfl, 0, rfl, by omega, by omega, rfl, rfl⟩) ?_
        · rintro k E h' ⟨rfl, i, rfl, hi1, hi2, rfl, hf2⟩
          by_cases hin : i ≤ W_n w
          · refine ev_T ?_ ⟨fun z => (by cases z), fun _ => ?_⟩
            · simp only [f_mkF, w_sI, w_sR, w_sL, w_sC, w_sk, w_sbr, w_sco, w_rV, w_rI, w_rR, w_rL, w_dI, w_sO, w_sq, w_si, w_pI, w_pZ, w_pR, w_pU, w_qI, w_qB, w_qZ, w_qU, w_qR, w_kV, q_icst, q_lcst, q_xR, q_ldI, q_ldR, q_ldL, q_bn, q_un, q_dv, q_fI, q_fR, q_aI, q_aR, q_aN, q_tn, q_cmp, q_cmz, q_cnt, q_ctt, q_cand, q_cor, q_vn, q_vI, q_vR, q_vL, q_kI, q_kR, q_kL, q_ckI, envN, argE, List.flatMap_cons, List.flatMap_nil, Value.category, junk, oadd, osub, omul, oand, oor, oxor, odiv, orem, oshl, oshr, oushr, omax, omin]
              simp (disch := first | omega | simp) [rk_i, rk_b, rk_o, st1, kill, Value.category, rcv, nog, inI_b, nI_clamp, nI_ltI, nI_leI, nI_eq, nI_9, nI_6, nI_22, nI_12, nI_180, nI_add, nI_1, hn3, ly166, ly172, hm3, mp, ht, e72'', hin]
            by_cases hiN : i < N
            · have i50 : i < 50 := by omega
              have en := m_num m3.1 i50
              rw [e83'] at en
              obtain ⟨c, hcc⟩ : ∃ c, min N (W_n w + 1) - i = c + 1 := ⟨min N (W_n w + 1) - i - 1, by omega⟩
              rw [hcc, fmo] at hf2
              have hne : ¬ nI i = nI N := by rw [nI_eq (by omega) (by omega)]; omega
              have hval : ev (tn (cnt (cmp oge (ldI 4) (aI 13 (fR 11 8 (ldR 0)) (ldI 2)))) (aI 13 (fR 11 47 (ldR 0)) (ldI 4)) (fI 11 51 (ldR 0))) [.ref 166, .int (nI (W_f w)), .int (nI t), .int (nI N), .int (nI i)] h' fun x h4 => x = (if i < W_n w then tlt w 0 (lows w) i else whz w 0) ∧ h4 = h' := by
                simp only [f_mkF, w_sI, w_sR, w_sL, w_sC, w_sk, w_sbr, w_sco, w_rV, w_rI, w_rR, w_rL, w_dI, w_sO, w_sq, w_si, w_pI, w_pZ, w_pR, w_pU, w_qI, w_qB, w_qZ, w_qU, w_qR, w_kV, q_icst, q_lcst, q_xR, q_ldI, q_ldR, q_ldL, q_bn, q_un, q_dv, q_fI, q_fR, q_aI, q_aR, q_aN, q_tn, q_cmp, q_cmz, q_cnt, q_ctt, q_cand, q_cor, q_vn, q_vI, q_vR, q_vL, q_kI, q_kR, q_kL, q_ckI, envN, argE, List.flatMap_cons, List.flatMap_nil, Value.category, junk, oadd, osub, omul, oand, oor, oxor, odiv, orem, oshl, oshr, oushr, omax, omin]
                by_cases hlt : i < W_n w
                · simp (disch := first | omega | simp) [rk_i, rk_b, rk_o, st1, kill, Value.category, rcv, nog, inI_b, nI_clamp, nI_ltI, nI_leI, nI_eq, nI_9, nI_6, nI_22, nI_12, nI_180, nI_add, nI_1, hn3, ly166, ly172, ly201, hm3, mp, ht, e72'', hlt, (hR i hlt).2.1]
                  try omega
                · simp (disch := first | omega | simp) [rk_i, rk_b, rk_o, st1, kill, Value.category, rcv, nog, inI_b, nI_clamp, nI_ltI, nI_leI, nI_eq, nI_9, nI_6, nI_22, nI_12, nI_180, nI_add, nI_1, hn3, ly166, ly172, hm3, mp, ht, e72'', hlt, e51]
                  try omega
              have hcond : ev (cor (cmp oeq (ldI 4) (ldI 3)) (cnt (cmp oeq (kI (rcv 11) F_X11_tapeNumber (vI (vR vn (ldR 0)) (ldI 4))) (tn (cnt (cmp oge (ldI 4) (aI 13 (fR 11 8 (ldR 0)) (ldI 2)))) (aI 13 (fR 11 47 (ldR 0)) (ldI 4)) (fI 11 51 (ldR 0)))))) [.ref 166, .int (nI (W_f w)), .int (nI t), .int (nI N), .int (nI i)] h' fun x h4 => x = pck w (h.2.1 13) i ∧ h4 = h' := by
                rw [q_cor, q_cmp, q_ldI]
                refine ⟨_, rfl, ?_⟩
                rw [q_ldI]
                refine ⟨_, rfl, fun z => ?_, fun _ => ?_⟩
                · have z2 : nI i = nI N := by simpa using z
                  exact absurd z2 hne
                · rw [q_cnt, q_cmp]
                  refine q_kIe [.ref 166, .int (nI i)] (by simp only [f_mkF, w_sI, w_sR, w_sL, w_sC, w_sk, w_sbr, w_sco, w_rV, w_rI, w_rR, w_rL, w_dI, w_sO, w_sq, w_si, w_pI, w_pZ, w_pR, w_pU, w_qI, w_qB, w_qZ, w_qU, w_qR, w_kV, q_icst, q_lcst, q_xR, q_ldI, q_ldR, q_ldL, q_bn, q_un, q_dv, q_fI, q_fR, q_aI, q_aR, q_aN, q_tn, q_cmp, q_cmz, q_cnt, q_ctt, q_cand, q_cor, q_vn, q_vI, q_vR, q_vL, q_kI, q_kR, q_kL, q_ckI, envN, argE, List.flatMap_cons, List.flatMap_nil, Value.category, junk, oadd, osub, omul, oand, oor, oxor, odiv, orem, oshl, oshr, oushr, omax, omin]; simp [rk_i, rk_b, rk_o, st1, kill, Value.category, rcv, nog]) (by simp [rcv, hn3, ly166]) ?_
                  rw [fq_of en]
                  refine ⟨_, rfl, ?_⟩
                  refine ev_mono hval ?_
                  rintro x h4 ⟨rfl, rfl⟩
                  refine ⟨?_, rfl⟩
                  unfold pck
                  simp
              refine w_siN _ hcond (fun hb => ?_) (fun hb => ?_)
              · rw [if_pos hb] at hf2
                simp only [f_mkF, w_sI, w_sR, w_sL, w_sC, w_sk, w_sbr, w_sco, w_rV, w_rI, w_rR, w_rL, w_dI, w_sO, w_sq, w_si, w_pI, w_pZ, w_pR, w_pU, w_qI, w_qB, w_qZ, w_qU, w_qR, w_kV, q_icst, q_lcst, q_xR, q_ldI, q_ldR, q_ldL, q_bn, q_un, q_dv, q_fI, q_fR, q_aI, q_aR, q_aN, q_tn, q_cmp, q_cmz, q_cnt, q_ctt, q_cand, q_cor, q_vn, q_vI, q_vR, q_vL, q_kI, q_kR, q_kL, q_ckI, envN, argE, List.flatMap_cons, List.flatMap_nil, Value.category, junk, oadd, osub, omul, oand, oor, oxor, odiv, orem, oshl, oshr, oushr, omax, omin]
                simp
                unfold chk
                rw [hf2]
              · rw [if_neg (by rw [hb]; simp)] at hf2
                rw [w_sk]
                refine ⟨fun _ => w_sCe (nI i) (nI (i + 1)) rfl (nI_1 _) rfl ⟨rfl, W_n w + 1 - (i + 1), by omega, rfl, i + 1, rfl, by omega, by omega, rfl, ?_⟩, (fun z => by cases z), fun z => absurd rfl z⟩
                rw [hf2, show min N (W_n w + 1) - (i + 1) = c by omega]
            · have hi3 : i = N := by omega
              subst hi3
              refine (w_siT ?_).mpr ?_
              · simp only [f_mkF, w_sI, w_sR, w_sL, w_sC, w_sk, w_sbr, w_sco, w_rV, w_rI, w_rR, w_rL, w_dI, w_sO, w_sq, w_si, w_pI, w_pZ, w_pR, w_pU, w_qI, w_qB, w_qZ, w_qU, w_qR, w_kV, q_icst, q_lcst, q_xR, q_ldI, q_ldR, q_ldL, q_bn, q_un, q_dv, q_fI, q_fR, q_aI, q_aR, q_aN, q_tn, q_cmp, q_cmz, q_cnt, q_ctt, q_cand, q_cor, q_vn, q_vI, q_vR, q_vL, q_kI, q_kR, q_kL, q_ckI, envN, argE, List.flatMap_cons, List.flatMap_nil, Value.category, junk, oadd, osub, omul, oand, oor, oxor, odiv, orem, oshl, oshr, oushr, omax, omin]
                simp
              · simp only [f_mkF, w_sI, w_sR, w_sL, w_sC, w_sk, w_sbr, w_sco, w_rV, w_rI, w_rR, w_rL, w_dI, w_sO, w_sq, w_si, w_pI, w_pZ, w_pR, w_pU, w_qI, w_qB, w_qZ, w_qU, w_qR, w_kV, q_icst, q_lcst, q_xR, q_ldI, q_ldR, q_ldL, q_bn, q_un, q_dv, q_fI, q_fR, q_aI, q_aR, q_aN, q_tn, q_cmp, q_cmz, q_cnt, q_ctt, q_cand, q_cor, q_vn, q_vI, q_vR, q_vL, q_kI, q_kR, q_kL, q_ckI, envN, argE, List.flatMap_cons, List.flatMap_nil, Value.category, junk, oadd, osub, omul, oand, oor, oxor, odiv, orem, oshl, oshr, oushr, omax, omin]
                simp
                unfold chk
                rw [hf2, show min i (W_n w + 1) - i = 0 by omega]
                show nI i = if i ≤ W_n w then nI i else if W_n w + 1 < i then nI (W_n w + 1) else -1
                rw [if_pos hin]
          · have hi3 : i = W_n w + 1 := by omega
            refine ev_F ?_ ⟨fun _ => ⟨rfl, Or.inr ⟨rfl, ⟨_, rfl⟩, ?_⟩⟩, fun z => (by cases z)⟩
            · simp only [f_mkF, w_sI, w_sR, w_sL, w_sC, w_sk, w_sbr, w_sco, w_rV, w_rI, w_rR, w_rL, w_dI, w_sO, w_sq, w_si, w_pI, w_pZ, w_pR, w_pU, w_qI, w_qB, w_qZ, w_qU, w_qR, w_kV, q_icst, q_lcst, q_xR, q_ldI, q_ldR, q_ldL, q_bn, q_un, q_dv, q_fI, q_fR, q_aI, q_aR, q_aN, q_tn, q_cmp, q_cmz, q_cnt, q_ctt, q_cand, q_cor, q_vn, q_vI, q_vR, q_vL, q_kI, q_kR, q_kL, q_ckI, envN, argE, List.flatMap_cons, List.flatMap_nil, Value.category, junk, oadd, osub, omul, oand, oor, oxor, odiv, orem, oshl, oshr, oushr, omax, omin]
              simp (disch := first | omega | simp) [rk_i, rk_b, rk_o, st1, kill, Value.category, rcv, nog, inI_b, nI_clamp, nI_ltI, nI_leI, nI_eq, nI_9, nI_6, nI_22, nI_12, nI_180, nI_add, nI_1, hn3, ly166, ly172, hm3, mp, ht, e72'', hi3]
            · unfold chk
              rw [hf2, show min N (W_n w + 1) - i = 0 by omega]
              show (if N ≤ W_n w then nI N else if W_n w + 1 < N then nI (W_n w + 1) else -1) = _
              rw [if_neg (by omega)]
        · rintro o v E1 h4 ⟨rfl, ⟨rfl, rfl⟩ | ⟨rfl, ⟨x, rfl⟩, hk⟩⟩
          · exact ⟨fun z => (by cases z), fun _ => Or.inr ⟨rfl, rfl, hP _ rfl⟩⟩
          · refine ⟨fun _ => ?_, fun z => absurd rfl z⟩
            have hv : ev (tn (cnt (cmp oge (bn oadd (aI 13 (fR 11 8 (ldR 0)) (ldI 2)) (icst 1)) (ldI 3))) (bn oadd (aI 13 (fR 11 8 (ldR 0)) (ldI 2)) (icst 1)) (icst (-1))) [.ref 166, .int (nI (W_f w)), .int (nI t), .int (nI N), x] h4 fun x h5 => x = (if W_n w + 1 < N then nI (W_n w + 1) else -1) ∧ h5 = h4 := by
              simp only [f_mkF, w_sI, w_sR, w_sL, w_sC, w_sk, w_sbr, w_sco, w_rV, w_rI, w_rR, w_rL, w_dI, w_sO, w_sq, w_si, w_pI, w_pZ, w_pR, w_pU, w_qI, w_qB, w_qZ, w_qU, w_qR, w_kV, q_icst, q_lcst, q_xR, q_ldI, q_ldR, q_ldL, q_bn, q_un, q_dv, q_fI, q_fR, q_aI, q_aR, q_aN, q_tn, q_cmp, q_cmz, q_cnt, q_ctt, q_cand, q_cor, q_vn, q_vI, q_vR, q_vL, q_kI, q_kR, q_kL, q_ckI, envN, argE, List.flatMap_cons, List.flatMap_nil, Value.category, junk, oadd, osub, omul, oand, oor, oxor, odiv, orem, oshl, oshr, oushr, omax, omin]
              by_cases hz : W_n w + 1 < N
              · simp (disch := first | omega | simp) [rk_i, rk_b, rk_o, st1, kill, Value.category, rcv, nog, inI_b, nI_clamp, nI_ltI, nI_leI, nI_eq, nI_9, nI_6, nI_22, nI_12, nI_180, nI_add, nI_1, hn3, ly166, ly172, hm3, mp, ht, e72'', hz]
                try omega
              · simp (disch := first | omega | simp) [rk_i, rk_b, rk_o, st1, kill, Value.category, rcv, nog, inI_b, nI_clamp, nI_ltI, nI_leI, nI_eq, nI_9, nI_6, nI_22, nI_12, nI_180, nI_add, nI_1, hn3, ly166, ly172, hm3, mp, ht, e72'', hz]
                try omega
            rw [w_rI]
            refine ev_mono hv ?_
            rintro x h5 ⟨rfl, rfl⟩
            exact Or.inr ⟨rfl, rfl, hP _ hk.symm⟩
      obtain ⟨r, h2, e2, rfl, f2, z20⟩ := Y
      refine ⟨_, h1, h2, e1, hn1, e2, inv_t (h1 := h1) q ((f2.1.trans f1.1).trans fj.1) (fun a k z => by rw [f2.2.1, f1.2.1]; exact fj.2.1 a k z) (fun a k z1 z2 z3 => ?_) ?_ z20 (c := 20 * n + 1) (by omega) ?_⟩
      · rw [f2.2.2 a k (by unfold SQ at z1; unfold SN SM; omega), f1.2.2 a k z2]
        exact fj.2.2 a k (by unfold SQ at z1; unfold SJ SX; omega)
      · rw [f2.2.2 12 1 (by unfold SN SM; omega)]; exact z12
      · obtain ⟨⟨i1, i2⟩, i3⟩ := ic
        have g1 : h2.2.1 147 10 = hj.2.1 147 10 := (f2.2.2 147 10 (by unfold SN SM; omega)).trans (f1.2.2 147 10 (by omega))
        refine ⟨by rw [g1]; omega, fun k => ?_⟩
        rw [g1, f2.2.2 155 k (by unfold SN SM; omega), f1.2.2 155 k (by omega)]
        exact i3 k
    · refine ⟨-2, h, h, ?_, hn, ?_, INV_up q⟩
      · rw [← fq_eq]
        unfold F_X10_check
        refine f_mkE _ rfl (by simp [argE, Value.category]) ?_
        refine w_sq.mpr ((w_siT ?_).mpr ?_)
        · simp only [f_mkF, w_sI, w_sR, w_sL, w_sC, w_sk, w_sbr, w_sco, w_rV, w_rI, w_rR, w_rL, w_dI, w_sO, w_sq, w_si, w_pI, w_pZ, w_pR, w_pU, w_qI, w_qB, w_qZ, w_qU, w_qR, w_kV, q_icst, q_lcst, q_xR, q_ldI, q_ldR, q_ldL, q_bn, q_un, q_dv, q_fI, q_fR, q_aI, q_aR, q_aN, q_tn, q_cmp, q_cmz, q_cnt, q_ctt, q_cand, q_cor, q_vn, q_vI, q_vR, q_vL, q_kI, q_kR, q_kL, q_ckI, envN, argE, List.flatMap_cons, List.flatMap_nil, Value.category, junk, oadd, osub, omul, oand, oor, oxor, odiv, orem, oshl, oshr, oushr, omax, omin]
          simp [rk_i, rk_b, rk_o, st1, kill, Value.category, rcv, nog, fq_of (e_x_isLand _ _), fq_of (i_x_isThing q _), fq_of (e_x_isWithin _ _ _ _), b2_0, hn, ly0, ly12, v5, a1, hL, hL4, zne, zeq]
          grind
        · simp only [f_mkF, w_sI, w_sR, w_sL, w_sC, w_sk, w_sbr, w_sco, w_rV, w_rI, w_rR, w_rL, w_dI, w_sO, w_sq, w_si, w_pI, w_pZ, w_pR, w_pU, w_qI, w_qB, w_qZ, w_qU, w_qR, w_kV, q_icst, q_lcst, q_xR, q_ldI, q_ldR, q_ldL, q_bn, q_un, q_dv, q_fI, q_fR, q_aI, q_aR, q_aN, q_tn, q_cmp, q_cmz, q_cnt, q_ctt, q_cand, q_cor, q_vn, q_vI, q_vR, q_vL, q_kI, q_kR, q_kL, q_ckI, envN, argE, List.flatMap_cons, List.flatMap_nil, Value.category, junk, oadd, osub, omul, oand, oor, oxor, odiv, orem, oshl, oshr, oushr, omax, omin]; simp [rk_i, rk_b, rk_o, st1, kill, Value.category, rcv, nog]
      · rw [← fq_eq]
        unfold F_X11_check
        refine f_mkE _ rfl (by simp [argE, Value.category]) ?_
        refine w_sq.mpr ((w_siT ?_).mpr ?_)
        · simp only [f_mkF, w_sI, w_sR, w_sL, w_sC, w_sk, w_sbr, w_sco, w_rV, w_rI, w_rR, w_rL, w_dI, w_sO, w_sq, w_si, w_pI, w_pZ, w_pR, w_pU, w_qI, w_qB, w_qZ, w_qU, w_qR, w_kV, q_icst, q_lcst, q_xR, q_ldI, q_ldR, q_ldL, q_bn, q_un, q_dv, q_fI, q_fR, q_aI, q_aR, q_aN, q_tn, q_cmp, q_cmz, q_cnt, q_ctt, q_cand, q_cor, q_vn, q_vI, q_vR, q_vL, q_kI, q_kR, q_kL, q_ckI, envN, argE, List.flatMap_cons, List.flatMap_nil, Value.category, junk, oadd, osub, omul, oand, oor, oxor, odiv, orem, oshl, oshr, oushr, omax, omin]
          simp [rk_i, rk_b, rk_o, st1, kill, Value.category, rcv, nog, fq_of (m_can hn _ _), b2_0, hn, ly166, hL, hL4, zne, zeq, zlt, ole]
          grind
        · simp only [f_mkF, w_sI, w_sR, w_sL, w_sC, w_sk, w_sbr, w_sco, w_rV, w_rI, w_rR, w_rL, w_dI, w_sO, w_sq, w_si, w_pI, w_pZ, w_pR, w_pU, w_qI, w_qB, w_qZ, w_qU, w_qR, w_kV, q_icst, q_lcst, q_xR, q_ldI, q_ldR, q_ldL, q_bn, q_un, q_dv, q_fI, q_fR, q_aI, q_aR, q_aN, q_tn, q_cmp, q_cmz, q_cnt, q_ctt, q_cand, q_cor, q_vn, q_vI, q_vR, q_vL, q_kI, q_kR, q_kL, q_ckI, envN, argE, List.flatMap_cons, List.flatMap_nil, Value.category, junk, oadd, osub, omul, oand, oor, oxor, odiv, orem, oshl, oshr, oushr, omax, omin]; simp [rk_i, rk_b, rk_o, st1, kill, Value.category, rcv, nog]
