/-! the reference: what time gives -/
def ST2 (i a k : Nat) : Prop := SG a k ∨ (a = 202 ∧ k = i)
theorem ST2_SM {i a k : Nat} (h : ST2 i a k) : SM a k := by unfold ST2 SG at h; unfold SM; omega
noncomputable def TL : Sm := lp (cand (cnt (cmp ogt (ldI 15) (ldI 14))) (cnt (cmp oeq (ldI 4) (ldI 5)))) (sq (kV (rcv 11) F_X11_feels (vI (vI (vI (vI (vI (vI (vI (vR vn (ldR 0)) (ldI 2)) (ldI 9)) (ldI 4)) (ldI 6)) (bn osub (ldI 15) (ldI 7))) (ldI 8)) (bn osub (ldI 15) (aI 13 (fR 11 12 (ldR 0)) (ldI 10))))) (sq (si (cnt (cmz zne (kI (rcv 11) F_X11_hasSuch (vI (vI (vR vn (ldR 0)) (kI (rcv 11) F_X11_ruler (vI (vI (vI (vI (vI (vR vn (ldR 0)) (ldI 1)) (ldI 2)) (ldI 9)) (icst 8)) (ldI 4)))) (icst 121))))) (sco) sk) (sq (sI 4 (ldI 5)) (qI 13 (fR 11 48 (ldR 0)) (ldI 9) (ldI 15))))) (sC 15 1)
theorem m_time {w : Wd} {t : Nat} {h : Hp} (q : MX w t h) {sp : Nat} (hs1 : h.2.1 166 41 = nI sp) (hs2 : sp < 64) {i L : Nat} (hi : i < W_n w) (hl : L ≤ i) (hne : frm (W_R w) (W_fo w) L ≠ W_R w i 1) {n3 : Int32} {v11 v12 v13 : Value} (c12 : v12.category = 1) (c13 : v13.category = 1) {Q : Nat → Value → En → Hp → Prop} (hQ : ∀ h1 x, Fr (ST2 i) h h1 → h1.2.1 202 i = (match wtm w i L (h.2.1 196 i) with | none => h.2.1 202 i | some m => nI m) → Q 0 .null [.ref 166, .int (nI (W_f w)), .int (nI t), .int n3, .int (match wtm w i L (h.2.1 196 i) with | none => frm (W_R w) (W_fo w) L | some _ => W_R w i 1), .int (W_R w i 1), .int (b2 (W_R w L 0 = 3 ∨ W_R w L 0 = 4)), .int (W_R w L 3), .int (nI (i - L + 1)), .int (nI i), .int (nI (22 * t + i)), v11, v12, v13, .int (nI (lst w i)), .int x] h1) : wp TL [.ref 166, .int (nI (W_f w)), .int (nI t), .int n3, .int (frm (W_R w) (W_fo w) L), .int (W_R w i 1), .int (b2 (W_R w L 0 = 3 ∨ W_R w L 0 = 4)), .int (W_R w L 3), .int (nI (i - L + 1)), .int (nI i), .int (nI (22 * t + i)), v11, v12, v13, .int (nI (lst w i)), .int (nI (mth w i + 1))] h Q := by
  have n20 := q.wv.1
  have hv := frm_ok q.wv (i := L) (by omega)
  obtain ⟨m1, m2, m3, m4⟩ := mth_ok q.wv hi
  have m5 := lst_le q.wv i hi
  have i22 : i < 22 := by omega
  have hal := askd_lt q.wv (kind := 8) (ow := frm (W_R w) (W_fo w) L) hi
  have hpy : ∀ m, py w i L (h.2.1 196 i) m = hs (W_D w (askd w i 8 (frm (W_R w) (W_fo w) L))) 5 (fct w i L (h.2.1 196 i) (nI m - W_R w i 3) (nI m - W_R w L 3)) := fun m => rfl
  have k8 : (8 : Int32) = nI 8 := rfl
  unfold TL
  unfold wtm at hQ
  generalize hM : h.2.1 196 i = M at *
  generalize hW : fmo (py w i L M) (lst w i - mth w i) (mth w i + 1) = W at hQ
  refine w_lp (fun k E h' => ((∃ m, k = lst w i + 2 - m ∧ m ≤ 601 ∧ E = [.ref 166, .int (nI (W_f w)), .int (nI t), .int n3, .int (frm (W_R w) (W_fo w) L), .int (W_R w i 1), .int (b2 (W_R w L 0 = 3 ∨ W_R w L 0 = 4)), .int (W_R w L 3), .int (nI (i - L + 1)), .int (nI i), .int (nI (22 * t + i)), v11, v12, v13, .int (nI (lst w i)), .int (nI m)] ∧ Fr SG h h' ∧ fmo (py w i L M) (lst w i + 1 - m) m = W) ∨ (∃ m x, k = 0 ∧ E = [.ref 166, .int (nI (W_f w)), .int (nI t), .int n3, .int (W_R w i 1), .int (W_R w i 1), .int (b2 (W_R w L 0 = 3 ∨ W_R w L 0 = 4)), .int (W_R w L 3), .int (nI (i - L + 1)), .int (nI i), .int (nI (22 * t + i)), v11, v12, v13, .int (nI (lst w i)), .int x] ∧ Fr (ST2 i) h h' ∧ W = some m ∧ h'.2.1 202 i = nI m))) ?_ (lst w i + 2 - (mth w i + 1)) _ _ (Or.inl ⟨mth w i + 1, rfl, by omega, rfl, Fr.refl h, by rw [← hW, show lst w i + 1 - (mth w i + 1) = lst w i - mth w i by omega]⟩)
  rintro k E h' (⟨m, rfl, m6, rfl, f, f5⟩ | ⟨m, x, rfl, rfl, f, rfl, f2⟩)
  · have q2 : MX w t h' := q.fr (f.sub fun a k z => SG_SM z)
    have hn := q2.1.1
    have hm' := q2.1.2.2
    obtain ⟨r0, r1, r2, r3, r4, r5, r6⟩ := q2.row hi
    by_cases hm : m ≤ lst w i
    · obtain ⟨c, hc⟩ : ∃ c, lst w i + 1 - m = c + 1 := ⟨lst w i - m, by omega⟩
      rw [hc, fmo] at f5
      refine ev_T ?_ ⟨fun z => (by cases z), fun _ => ?_⟩
      · simp only [f_mkF, w_sI, w_sR, w_sL, w_sC, w_sk, w_sbr, w_sco, w_rV, w_rI, w_rR, w_rL, w_dI, w_sO, w_sq, w_si, w_pI, w_pZ, w_pR, w_pU, w_qI, w_qB, w_qZ, w_qU, w_qR, w_kV, q_icst, q_lcst, q_xR, q_ldI, q_ldR, q_ldL, q_bn, q_un, q_dv, q_fI, q_fR, q_aI, q_aR, q_aN, q_tn, q_cmp, q_cmz, q_cnt, q_ctt, q_cand, q_cor, q_vn, q_vI, q_vR, q_vL, q_kI, q_kR, q_kL, q_ckI, envN, argE, List.flatMap_cons, List.flatMap_nil, Value.category, junk, oadd, osub, omul, oand, oor, oxor, odiv, orem, oshl, oshr, oushr, omax, omin]
        simp (disch := first | omega | simp) [rk_i, rk_b, rk_o, st1, kill, Value.category, rcv, nog, inI_b, nI_clamp, nI_ltI, nI_leI, nI_eq, nI_9, nI_6, nI_22, nI_12, nI_180, nI_add, nI_1, hm, hne]
      refine w_fz fun B hB C hC => ?_
      simp only [f_mkF, w_sI, w_sR, w_sL, w_sC, w_sk, w_sbr, w_sco, w_rV, w_rI, w_rR, w_rL, w_dI, w_sO, w_sq, w_si, w_pI, w_pZ, w_pR, w_pU, w_qI, w_qB, w_qZ, w_qU, w_qR, w_kV, q_icst, q_lcst, q_xR, q_ldI, q_ldR, q_ldL, q_bn, q_un, q_dv, q_fI, q_fR, q_aI, q_aR, q_aN, q_tn, q_cmp, q_cmz, q_cnt, q_ctt, q_cand, q_cor, q_vn, q_vI, q_vR, q_vL, q_kI, q_kR, q_kL, q_ckI, envN, argE, List.flatMap_cons, List.flatMap_nil, Value.category, junk, oadd, osub, omul, oand, oor, oxor, odiv, orem, oshl, oshr, oushr, omax, omin]
      simp (disch := first | omega | simp) [rk_i, rk_b, rk_o, st1, kill, Value.category, rcv, nog, inI_b, nI_clamp, nI_ltI, nI_leI, nI_eq, nI_9, nI_6, nI_22, nI_12, nI_180, nI_add, nI_1, hn, ly166, hm' 12, mp, ly176, r0, r4]
      refine fq_mono (m_feels q2 hi hl _ _) ?_
      rintro r h1 ⟨rfl, f1, f2⟩
      simp
      subst hB hC
      have q3 : MX w t h1 := q2.fr (f1.sub fun a k z => Or.inr (Or.inl z))
      have f3 : Fr SG h h1 := f.trans (f1.sub fun a k z => Or.inr (Or.inl z))
      have e41 : h1.2.1 166 41 = nI sp := (f3.2.2 166 41 (by unfold SG; omega)).trans hs1
      have e96 : h'.2.1 196 i = M := (f.2.2 196 i (by unfold SG; omega)).trans hM
      rw [e96] at f2
      rw [w_sq, w_si, q_cnt, q_cmz]
      refine m_asks q3 e41 hs2 (i := i) (kind := 8) (lt := 5) (ow := frm (W_R w) (W_fo w) L) hi (by omega) (by omega) hv (fun h' => ?_) (fun h' => ?_) (fun h' => ?_) fun h2 g => ?_
      · simp only [f_mkF, w_sI, w_sR, w_sL, w_sC, w_sk, w_sbr, w_sco, w_rV, w_rI, w_rR, w_rL, w_dI, w_sO, w_sq, w_si, w_pI, w_pZ, w_pR, w_pU, w_qI, w_qB, w_qZ, w_qU, w_qR, w_kV, q_icst, q_lcst, q_xR, q_ldI, q_ldR, q_ldL, q_bn, q_un, q_dv, q_fI, q_fR, q_aI, q_aR, q_aN, q_tn, q_cmp, q_cmz, q_cnt, q_ctt, q_cand, q_cor, q_vn, q_vI, q_vR, q_vL, q_kI, q_kR, q_kL, q_ckI, envN, argE, List.flatMap_cons, List.flatMap_nil, Value.category, junk, oadd, osub, omul, oand, oor, oxor, odiv, orem, oshl, oshr, oushr, omax, omin]; simp [rk_i, rk_b, rk_o, st1, kill, Value.category, rcv, nog, k8]
      · simp only [f_mkF, w_sI, w_sR, w_sL, w_sC, w_sk, w_sbr, w_sco, w_rV, w_rI, w_rR, w_rL, w_dI, w_sO, w_sq, w_si, w_pI, w_pZ, w_pR, w_pU, w_qI, w_qB, w_qZ, w_qU, w_qR, w_kV, q_icst, q_lcst, q_xR, q_ldI, q_ldR, q_ldL, q_bn, q_un, q_dv, q_fI, q_fR, q_aI, q_aR, q_aN, q_tn, q_cmp, q_cmz, q_cnt, q_ctt, q_cand, q_cor, q_vn, q_vI, q_vR, q_vL, q_kI, q_kR, q_kL, q_ckI, envN, argE, List.flatMap_cons, List.flatMap_nil, Value.category, junk, oadd, osub, omul, oand, oor, oxor, odiv, orem, oshl, oshr, oushr, omax, omin]; simp [rk_i, rk_b, rk_o, st1, kill, Value.category, rcv, nog]
      · simp only [f_mkF, w_sI, w_sR, w_sL, w_sC, w_sk, w_sbr, w_sco, w_rV, w_rI, w_rR, w_rL, w_dI, w_sO, w_sq, w_si, w_pI, w_pZ, w_pR, w_pU, w_qI, w_qB, w_qZ, w_qU, w_qR, w_kV, q_icst, q_lcst, q_xR, q_ldI, q_ldR, q_ldL, q_bn, q_un, q_dv, q_fI, q_fR, q_aI, q_aR, q_aN, q_tn, q_cmp, q_cmz, q_cnt, q_ctt, q_cand, q_cor, q_vn, q_vI, q_vR, q_vL, q_kI, q_kR, q_kL, q_ckI, envN, argE, List.flatMap_cons, List.flatMap_nil, Value.category, junk, oadd, osub, omul, oand, oor, oxor, odiv, orem, oshl, oshr, oushr, omax, omin]; simp [rk_i, rk_b, rk_o, st1, kill, Value.category, rcv, nog, chL]
      rw [hs_cong (q.wv.2.2.2.2.2.2.2.2.2 _ hal) f2, ← hpy]
      have f4 : Fr SG h h2 := f3.trans g
      cases hb : py w i L M m with
      | true =>
        rw [if_pos hb] at f5
        refine ⟨fun z => ?_, fun z => ?_⟩
        · simp [b2, zne] at z
        have hn2 : h2.1 = 212 := f4.1.trans q.1.1
        have hm2 : h2.2.2 166 48 = some 202 := by rw [f4.2.1]; exact q.1.2.2 48
        refine w_sk2.mpr ?_
        refine w_sqI (W_R w i 1) (by simp only [f_mkF, w_sI, w_sR, w_sL, w_sC, w_sk, w_sbr, w_sco, w_rV, w_rI, w_rR, w_rL, w_dI, w_sO, w_sq, w_si, w_pI, w_pZ, w_pR, w_pU, w_qI, w_qB, w_qZ, w_qU, w_qR, w_kV, q_icst, q_lcst, q_xR, q_ldI, q_ldR, q_ldL, q_bn, q_un, q_dv, q_fI, q_fR, q_aI, q_aR, q_aN, q_tn, q_cmp, q_cmz, q_cnt, q_ctt, q_cand, q_cor, q_vn, q_vI, q_vR, q_vL, q_kI, q_kR, q_kL, q_ckI, envN, argE, List.flatMap_cons, List.flatMap_nil, Value.category, junk, oadd, osub, omul, oand, oor, oxor, odiv, orem, oshl, oshr, oushr, omax, omin]; simp [rk_i, rk_b, rk_o, st1, kill, Value.category, rcv, nog]) rfl ?_
        refine w_qIe 202 i (nI m) ?_ ?_ ?_ (by omega) rfl i22 (by omega) ⟨fun _ => ?_, (fun z => by cases z), fun z => absurd rfl z⟩
        · simp only [f_mkF, w_sI, w_sR, w_sL, w_sC, w_sk, w_sbr, w_sco, w_rV, w_rI, w_rR, w_rL, w_dI, w_sO, w_sq, w_si, w_pI, w_pZ, w_pR, w_pU, w_qI, w_qB, w_qZ, w_qU, w_qR, w_kV, q_icst, q_lcst, q_xR, q_ldI, q_ldR, q_ldL, q_bn, q_un, q_dv, q_fI, q_fR, q_aI, q_aR, q_aN, q_tn, q_cmp, q_cmz, q_cnt, q_ctt, q_cand, q_cor, q_vn, q_vI, q_vR, q_vL, q_kI, q_kR, q_kL, q_ckI, envN, argE, List.flatMap_cons, List.flatMap_nil, Value.category, junk, oadd, osub, omul, oand, oor, oxor, odiv, orem, oshl, oshr, oushr, omax, omin]; simp [rk_i, rk_b, rk_o, st1, kill, Value.category, rcv, nog, hn2, ly166, hm2]
        · simp only [f_mkF, w_sI, w_sR, w_sL, w_sC, w_sk, w_sbr, w_sco, w_rV, w_rI, w_rR, w_rL, w_dI, w_sO, w_sq, w_si, w_pI, w_pZ, w_pR, w_pU, w_qI, w_qB, w_qZ, w_qU, w_qR, w_kV, q_icst, q_lcst, q_xR, q_ldI, q_ldR, q_ldL, q_bn, q_un, q_dv, q_fI, q_fR, q_aI, q_aR, q_aN, q_tn, q_cmp, q_cmz, q_cnt, q_ctt, q_cand, q_cor, q_vn, q_vI, q_vR, q_vL, q_kI, q_kR, q_kL, q_ckI, envN, argE, List.flatMap_cons, List.flatMap_nil, Value.category, junk, oadd, osub, omul, oand, oor, oxor, odiv, orem, oshl, oshr, oushr, omax, omin]; simp [rk_i, rk_b, rk_o, st1, kill, Value.category, rcv, nog]
        · simp only [f_mkF, w_sI, w_sR, w_sL, w_sC, w_sk, w_sbr, w_sco, w_rV, w_rI, w_rR, w_rL, w_dI, w_sO, w_sq, w_si, w_pI, w_pZ, w_pR, w_pU, w_qI, w_qB, w_qZ, w_qU, w_qR, w_kV, q_icst, q_lcst, q_xR, q_ldI, q_ldR, q_ldL, q_bn, q_un, q_dv, q_fI, q_fR, q_aI, q_aR, q_aN, q_tn, q_cmp, q_cmz, q_cnt, q_ctt, q_cand, q_cor, q_vn, q_vI, q_vR, q_vL, q_kI, q_kR, q_kL, q_ckI, envN, argE, List.flatMap_cons, List.flatMap_nil, Value.category, junk, oadd, osub, omul, oand, oor, oxor, odiv, orem, oshl, oshr, oushr, omax, omin]; simp [rk_i, rk_b, rk_o, st1, kill, Value.category, rcv, nog]
        refine w_sCe (nI m) (nI (m + 1)) rfl (nI_1 _) rfl ⟨rfl, 0, by omega, Or.inr ⟨m, _, rfl, rfl, (f4.sub fun a k z => Or.inl z).w (Or.inr ⟨rfl, rfl⟩), f5.symm, by simp [wI_i]⟩⟩
      | false =>
        rw [if_neg (by rw [hb]; simp)] at f5
        refine ⟨fun _ => ?_, fun z => ?_⟩
        · rw [w_sco]
          refine ⟨(fun z => by cases z), fun _ => ⟨fun _ => ?_, (fun z => by cases z), fun _ z => absurd rfl z⟩⟩
          refine w_sCe (nI m) (nI (m + 1)) rfl (nI_1 _) rfl ⟨rfl, lst w i + 2 - (m + 1), by omega, Or.inl ⟨m + 1, rfl, by omega, rfl, f4, ?_⟩⟩
          rw [show lst w i + 1 - (m + 1) = c by omega]
          exact f5
        · simp [b2, zne] at z
    · rw [show lst w i + 1 - m = 0 by omega] at f5
      have hW0 : W = none := f5.symm
      refine ev_F ?_ ⟨fun _ => ?_, fun z => (by cases z)⟩
      · simp only [f_mkF, w_sI, w_sR, w_sL, w_sC, w_sk, w_sbr, w_sco, w_rV, w_rI, w_rR, w_rL, w_dI, w_sO, w_sq, w_si, w_pI, w_pZ, w_pR, w_pU, w_qI, w_qB, w_qZ, w_qU, w_qR, w_kV, q_icst, q_lcst, q_xR, q_ldI, q_ldR, q_ldL, q_bn, q_un, q_dv, q_fI, q_fR, q_aI, q_aR, q_aN, q_tn, q_cmp, q_cmz, q_cnt, q_ctt, q_cand, q_cor, q_vn, q_vI, q_vR, q_vL, q_kI, q_kR, q_kL, q_ckI, envN, argE, List.flatMap_cons, List.flatMap_nil, Value.category, junk, oadd, osub, omul, oand, oor, oxor, odiv, orem, oshl, oshr, oushr, omax, omin]
        simp (disch := first | omega | simp) [rk_i, rk_b, rk_o, st1, kill, Value.category, rcv, nog, inI_b, nI_clamp, nI_ltI, nI_leI, nI_eq, nI_9, nI_6, nI_22, nI_12, nI_180, nI_add, nI_1, hne]
        omega
      · subst hW0
        exact hQ h' (nI m) (f.sub fun a k z => Or.inl z) (f.2.2 202 i (by unfold SG; omega))
  · refine ev_F ?_ ⟨fun _ => ?_, fun z => (by cases z)⟩
    · simp only [f_mkF, w_sI, w_sR, w_sL, w_sC, w_sk, w_sbr, w_sco, w_rV, w_rI, w_rR, w_rL, w_dI, w_sO, w_sq, w_si, w_pI, w_pZ, w_pR, w_pU, w_qI, w_qB, w_qZ, w_qU, w_qR, w_kV, q_icst, q_lcst, q_xR, q_ldI, q_ldR, q_ldL, q_bn, q_un, q_dv, q_fI, q_fR, q_aI, q_aR, q_aN, q_tn, q_cmp, q_cmz, q_cnt, q_ctt, q_cand, q_cor, q_vn, q_vI, q_vR, q_vL, q_kI, q_kR, q_kL, q_ckI, envN, argE, List.flatMap_cons, List.flatMap_nil, Value.category, junk, oadd, osub, omul, oand, oor, oxor, odiv, orem, oshl, oshr, oushr, omax, omin]
      simp
    · exact hQ h' x f f2
