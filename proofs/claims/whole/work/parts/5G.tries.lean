/-! all minds: the reference tries -/
theorem MX.ftr {w : Wd} {t : Nat} {h h' : Hp} (m : MX w t h) (f : Fr STr h h') : MX w t h' := m.gen (f.ip m.1) fun a k z => f.2.2 a k (by unfold STr SN SM; omega)
theorem nI_3 (a : Nat) : 3 * nI a = nI (3 * a) := nI_mul 3 a
theorem m_tries {w : Wd} {t : Nat} {h : Hp} (m : MX w t h) (e72 : h.2.1 172 t = nI (W_n w)) : fq F_X11_triesAll [.ref 166, .int (nI (W_f w)), .int (nI t)] h fun r h' => r = some (.int (b2 (uns (W_R w) (W_n w) ≤ 8))) ∧ Fr STr h h' ∧ (uns (W_R w) (W_n w) ≤ 8 → TRY w h') := by
  have hn := m.1.1
  have hm := m.1.2.2
  have ht := m.2.1
  have n20 := m.wv.1
  have hW := m.wv
  have uN := uns_le (W_R w) (W_n w)
  have rows : ∀ h', Fr STr h h' → ∀ i, i < W_n w → 22 * t + i < 88 ∧ h'.2.1 179 (22 * t + i) = W_R w i 6 ∧ h'.2.1 180 (22 * t + i) = W_R w i 7 := fun h' f i hi => ⟨by omega, (f.2.2 _ _ (by unfold STr SN SM; omega)).trans (m.2.2.1 i 6 hi (by omega)), (f.2.2 _ _ (by unfold STr SN SM; omega)).trans (m.2.2.1 i 7 hi (by omega))⟩
  unfold F_X11_triesAll
  refine f_mkE [.ref 166, .int (nI (W_f w)), .int (nI t), junk, junk, junk, junk] rfl (by simp [argE, Value.category]) ?_
  (refine w_fz fun B hB C hC => ?_); (simp only [f_mkF, w_sI, w_sR, w_sL, w_sC, w_sk, w_sbr, w_sco, w_rV, w_rI, w_rR, w_rL, w_dI, w_sO, w_sq, w_si, w_pI, w_pZ, w_pR, w_pU, w_qI, w_qB, w_qZ, w_qU, w_qR, w_kV, q_icst, q_lcst, q_xR, q_ldI, q_ldR, q_ldL, q_bn, q_un, q_dv, q_fI, q_fR, q_aI, q_aR, q_aN, q_tn, q_cmp, q_cmz, q_cnt, q_ctt, q_cand, q_cor, q_vn, q_vI, q_vR, q_vL, q_kI, q_kR, q_kL, q_ckI, envN, argE, List.flatMap_cons, List.flatMap_nil, Value.category, junk, oadd, osub, omul, oand, oor, oxor, odiv, orem, oshl, oshr, oushr, omax, omin]); (simp (disch := first | omega | simp) [rk_i, rk_b, rk_o, st1, kill, Value.category, rcv, nog, inI_b, nI_clamp, nI_ltI, nI_leI, nI_eq, nI_9, nI_6, nI_22, nI_12, nI_180, nI_add, nI_1, hn, ly166]); (subst hB hC)
  refine w_sqS (fun E1 h1 => E1 = [.ref 166, .int (nI (W_f w)), .int (nI t), junk, junk, junk, junk] ∧ h1 = wI (wI h 166 52 0) 205 0 1) (w_qIe 205 0 1 ?_ ?_ ?_ (by rw [wI_1]; omega) rfl (by omega) (by omega) ⟨rfl, rfl, rfl⟩) ?_
  · simp only [f_mkF, w_sI, w_sR, w_sL, w_sC, w_sk, w_sbr, w_sco, w_rV, w_rI, w_rR, w_rL, w_dI, w_sO, w_sq, w_si, w_pI, w_pZ, w_pR, w_pU, w_qI, w_qB, w_qZ, w_qU, w_qR, w_kV, q_icst, q_lcst, q_xR, q_ldI, q_ldR, q_ldL, q_bn, q_un, q_dv, q_fI, q_fR, q_aI, q_aR, q_aN, q_tn, q_cmp, q_cmz, q_cnt, q_ctt, q_cand, q_cor, q_vn, q_vI, q_vR, q_vL, q_kI, q_kR, q_kL, q_ckI, envN, argE, List.flatMap_cons, List.flatMap_nil, Value.category, junk, oadd, osub, omul, oand, oor, oxor, odiv, orem, oshl, oshr, oushr, omax, omin]; simp [rk_i, rk_b, rk_o, st1, kill, Value.category, rcv, nog, hn, ly166, hm 54, mp, wI_1, wI_r]
  · simp only [f_mkF, w_sI, w_sR, w_sL, w_sC, w_sk, w_sbr, w_sco, w_rV, w_rI, w_rR, w_rL, w_dI, w_sO, w_sq, w_si, w_pI, w_pZ, w_pR, w_pU, w_qI, w_qB, w_qZ, w_qU, w_qR, w_kV, q_icst, q_lcst, q_xR, q_ldI, q_ldR, q_ldL, q_bn, q_un, q_dv, q_fI, q_fR, q_aI, q_aR, q_aN, q_tn, q_cmp, q_cmz, q_cnt, q_ctt, q_cand, q_cor, q_vn, q_vI, q_vR, q_vL, q_kI, q_kR, q_kL, q_ckI, envN, argE, List.flatMap_cons, List.flatMap_nil, Value.category, junk, oadd, osub, omul, oand, oor, oxor, odiv, orem, oshl, oshr, oushr, omax, omin]; simp [rk_i, rk_b, rk_o, st1, kill, Value.category, rcv, nog, nI_0]
  · simp only [f_mkF, w_sI, w_sR, w_sL, w_sC, w_sk, w_sbr, w_sco, w_rV, w_rI, w_rR, w_rL, w_dI, w_sO, w_sq, w_si, w_pI, w_pZ, w_pR, w_pU, w_qI, w_qB, w_qZ, w_qU, w_qR, w_kV, q_icst, q_lcst, q_xR, q_ldI, q_ldR, q_ldL, q_bn, q_un, q_dv, q_fI, q_fR, q_aI, q_aR, q_aN, q_tn, q_cmp, q_cmz, q_cnt, q_ctt, q_cand, q_cor, q_vn, q_vI, q_vR, q_vL, q_kI, q_kR, q_kL, q_ckI, envN, argE, List.flatMap_cons, List.flatMap_nil, Value.category, junk, oadd, osub, omul, oand, oor, oxor, odiv, orem, oshl, oshr, oushr, omax, omin]; simp [rk_i, rk_b, rk_o, st1, kill, Value.category, rcv, nog]
  rintro E1 h1 ⟨rfl, hh1⟩
  have f1 : Fr STr h h1 := by rw [hh1]; exact ((Fr.refl h).w (by unfold STr; omega)).w (by unfold STr; omega)
  have z52 : h1.2.1 166 52 = nI 0 := by rw [hh1]; simp [wI_i, nI_0]
  have z205 : h1.2.1 205 0 = nI 1 := by rw [hh1]; simp [wI_i, nI_one]
  clear hh1
  refine w_sqS (fun E1 h2 => (∃ x, E1 = [.ref 166, .int (nI (W_f w)), .int (nI t), .int x, junk, junk, junk]) ∧ Fr STr h h2 ∧ h2.2.1 205 0 = nI 1 ∧ h2.2.1 166 52 = nI (uns (W_R w) (W_n w)) ∧ ∀ i, i < W_n w → unq w i = true → h2.2.1 204 (uns (W_R w) i) = nI i) ?_ ?_
  · refine w_sqI (E' := [.ref 166, .int (nI (W_f w)), .int (nI t), .int (nI 0), junk, junk, junk]) (nI 0) (by simp only [f_mkF, w_sI, w_sR, w_sL, w_sC, w_sk, w_sbr, w_sco, w_rV, w_rI, w_rR, w_rL, w_dI, w_sO, w_sq, w_si, w_pI, w_pZ, w_pR, w_pU, w_qI, w_qB, w_qZ, w_qU, w_qR, w_kV, q_icst, q_lcst, q_xR, q_ldI, q_ldR, q_ldL, q_bn, q_un, q_dv, q_fI, q_fR, q_aI, q_aR, q_aN, q_tn, q_cmp, q_cmz, q_cnt, q_ctt, q_cand, q_cor, q_vn, q_vI, q_vR, q_vL, q_kI, q_kR, q_kL, q_ckI, envN, argE, List.flatMap_cons, List.flatMap_nil, Value.category, junk, oadd, osub, omul, oand, oor, oxor, odiv, orem, oshl, oshr, oushr, omax, omin]; simp [nI_0]) rfl ?_
    refine w_lp (fun k E h' => ∃ i, k = W_n w - i ∧ i ≤ W_n w ∧ E = [.ref 166, .int (nI (W_f w)), .int (nI t), .int (nI i), junk, junk, junk] ∧ Fr STr h h' ∧ h'.2.1 205 0 = nI 1 ∧ h'.2.1 166 52 = nI (uns (W_R w) i) ∧ ∀ j, j < i → unq w j = true → h'.2.1 204 (uns (W_R w) j) = nI j) ?_ (W_n w) _ _ ⟨0, rfl, by omega, rfl, f1, z205, z52, fun j hj => by omega⟩
    rintro k E h' ⟨i, rfl, hi', rfl, f, z205, z52, hx⟩
    have m' := m.ftr f
    have hn' := m'.1.1
    have hm' := m'.1.2.2
    have d72 : h'.2.1 172 t = nI (W_n w) := (f.2.2 172 t (by unfold STr SN SM; omega)).trans e72
    by_cases hi : i < W_n w
    · refine ev_T ?_ ⟨fun z => (by cases z), fun _ => ?_⟩
      · simp only [f_mkF, w_sI, w_sR, w_sL, w_sC, w_sk, w_sbr, w_sco, w_rV, w_rI, w_rR, w_rL, w_dI, w_sO, w_sq, w_si, w_pI, w_pZ, w_pR, w_pU, w_qI, w_qB, w_qZ, w_qU, w_qR, w_kV, q_icst, q_lcst, q_xR, q_ldI, q_ldR, q_ldL, q_bn, q_un, q_dv, q_fI, q_fR, q_aI, q_aR, q_aN, q_tn, q_cmp, q_cmz, q_cnt, q_ctt, q_cand, q_cor, q_vn, q_vI, q_vR, q_vL, q_kI, q_kR, q_kL, q_ckI, envN, argE, List.flatMap_cons, List.flatMap_nil, Value.category, junk, oadd, osub, omul, oand, oor, oxor, odiv, orem, oshl, oshr, oushr, omax, omin]
        simp (disch := first | omega | simp) [rk_i, rk_b, rk_o, st1, kill, Value.category, rcv, nog, inI_b, nI_clamp, nI_ltI, nI_leI, nI_eq, nI_9, nI_6, nI_22, nI_12, nI_180, nI_add, nI_1, hn', ly166, ly172, hm' 8, mp, ht, d72, hi]
      obtain ⟨r0, r6, r7⟩ := rows h' f i hi
      obtain ⟨lo, hh, e1, e2, e3, e4, e5⟩ := hW.mi hi
      rw [e1] at r6
      rw [e2] at r7
      have ui := uns_le (W_R w) i
      by_cases c : unq w i = true
      · have clt := e5.mp c
        refine w_sq.mpr ((w_siF ?_).mpr (w_sk2.mpr ?_))
        · simp only [f_mkF, w_sI, w_sR, w_sL, w_sC, w_sk, w_sbr, w_sco, w_rV, w_rI, w_rR, w_rL, w_dI, w_sO, w_sq, w_si, w_pI, w_pZ, w_pR, w_pU, w_qI, w_qB, w_qZ, w_qU, w_qR, w_kV, q_icst, q_lcst, q_xR, q_ldI, q_ldR, q_ldL, q_bn, q_un, q_dv, q_fI, q_fR, q_aI, q_aR, q_aN, q_tn, q_cmp, q_cmz, q_cnt, q_ctt, q_cand, q_cor, q_vn, q_vI, q_vR, q_vL, q_kI, q_kR, q_kL, q_ckI, envN, argE, List.flatMap_cons, List.flatMap_nil, Value.category, junk, oadd, osub, omul, oand, oor, oxor, odiv, orem, oshl, oshr, oushr, omax, omin]
          simp (disch := first | omega | simp) [rk_i, rk_b, rk_o, st1, kill, Value.category, rcv, nog, inI_b, nI_clamp, nI_ltI, nI_leI, nI_eq, nI_9, nI_6, nI_22, nI_12, nI_180, nI_add, nI_1, hn', ly166, ly179, ly180, hm' 15, hm' 16, mp, r0, r6, r7]
          omega
        have u20 : uns (W_R w) i < 20 := by omega
        refine w_sqS (fun E1 h2 => E1 = [.ref 166, .int (nI (W_f w)), .int (nI t), .int (nI i), junk, junk, junk] ∧ h2 = wI h' 204 (uns (W_R w) i) (nI i)) (w_qIe 204 (uns (W_R w) i) (nI i) ?_ ?_ ?_ (by omega) rfl u20 (by omega) ⟨rfl, rfl, rfl⟩) ?_
        · simp only [f_mkF, w_sI, w_sR, w_sL, w_sC, w_sk, w_sbr, w_sco, w_rV, w_rI, w_rR, w_rL, w_dI, w_sO, w_sq, w_si, w_pI, w_pZ, w_pR, w_pU, w_qI, w_qB, w_qZ, w_qU, w_qR, w_kV, q_icst, q_lcst, q_xR, q_ldI, q_ldR, q_ldL, q_bn, q_un, q_dv, q_fI, q_fR, q_aI, q_aR, q_aN, q_tn, q_cmp, q_cmz, q_cnt, q_ctt, q_cand, q_cor, q_vn, q_vI, q_vR, q_vL, q_kI, q_kR, q_kL, q_ckI, envN, argE, List.flatMap_cons, List.flatMap_nil, Value.category, junk, oadd, osub, omul, oand, oor, oxor, odiv, orem, oshl, oshr, oushr, omax, omin]; simp [rk_i, rk_b, rk_o, st1, kill, Value.category, rcv, nog, hn', ly166, hm' 53, mp]
        · simp only [f_mkF, w_sI, w_sR, w_sL, w_sC, w_sk, w_sbr, w_sco, w_rV, w_rI, w_rR, w_rL, w_dI, w_sO, w_sq, w_si, w_pI, w_pZ, w_pR, w_pU, w_qI, w_qB, w_qZ, w_qU, w_qR, w_kV, q_icst, q_lcst, q_xR, q_ldI, q_ldR, q_ldL, q_bn, q_un, q_dv, q_fI, q_fR, q_aI, q_aR, q_aN, q_tn, q_cmp, q_cmz, q_cnt, q_ctt, q_cand, q_cor, q_vn, q_vI, q_vR, q_vL, q_kI, q_kR, q_kL, q_ckI, envN, argE, List.flatMap_cons, List.flatMap_nil, Value.category, junk, oadd, osub, omul, oand, oor, oxor, odiv, orem, oshl, oshr, oushr, omax, omin]; simp [rk_i, rk_b, rk_o, st1, kill, Value.category, rcv, nog, hn', ly166, z52]
        · simp only [f_mkF, w_sI, w_sR, w_sL, w_sC, w_sk, w_sbr, w_sco, w_rV, w_rI, w_rR, w_rL, w_dI, w_sO, w_sq, w_si, w_pI, w_pZ, w_pR, w_pU, w_qI, w_qB, w_qZ, w_qU, w_qR, w_kV, q_icst, q_lcst, q_xR, q_ldI, q_ldR, q_ldL, q_bn, q_un, q_dv, q_fI, q_fR, q_aI, q_aR, q_aN, q_tn, q_cmp, q_cmz, q_cnt, q_ctt, q_cand, q_cor, q_vn, q_vI, q_vR, q_vL, q_kI, q_kR, q_kL, q_ckI, envN, argE, List.flatMap_cons, List.flatMap_nil, Value.category, junk, oadd, osub, omul, oand, oor, oxor, odiv, orem, oshl, oshr, oushr, omax, omin]; simp [rk_i, rk_b, rk_o, st1, kill, Value.category, rcv, nog]
        rintro E1 h2 ⟨rfl, rfl⟩
        simp only [w_pI, q_ldR, q_bn, q_fI, q_icst]
        refine ⟨166, rfl, 166, rfl, ⟨by rw [wI_1]; omega, rfl⟩, ⟨by rw [wI_1]; omega, rfl⟩, fun _ => ?_, (fun z => by cases z), fun z => absurd rfl z⟩
        have e52 : oadd ((wI h' 204 (uns (W_R w) i) (nI i)).2.1 166 52) 1 = nI (uns (W_R w) (i + 1)) := by
          rw [wI_o (by decide), z52, uns_s, if_pos c]
          exact nI_1 _
        rw [e52]
        refine w_sCe (nI i) (nI (i + 1)) rfl (nI_1 _) rfl ⟨rfl, W_n w - (i + 1), by omega, i + 1, rfl, hi, rfl, (f.w (by unfold STr; omega)).w (by unfold STr; omega), by rw [wI_o (by decide), wI_o (by decide)]; exact z205, by simp [wI_i], fun j hj hu => ?_⟩
        rw [wI_o (by decide), wI_i]
        by_cases e : j = i
        · rw [if_pos ⟨rfl, by rw [e]⟩, e]
        · rw [if_neg (fun z => e (uns_inj w hu c z.2))]
          exact hx j (by omega) hu
      · have clt : lo = hh := by
          have : ¬ lo < hh := fun z => c (e5.mpr z)
          omega
        refine w_sq.mpr ((w_siT ?_).mpr ?_)
        · simp only [f_mkF, w_sI, w_sR, w_sL, w_sC, w_sk, w_sbr, w_sco, w_rV, w_rI, w_rR, w_rL, w_dI, w_sO, w_sq, w_si, w_pI, w_pZ, w_pR, w_pU, w_qI, w_qB, w_qZ, w_qU, w_qR, w_kV, q_icst, q_lcst, q_xR, q_ldI, q_ldR, q_ldL, q_bn, q_un, q_dv, q_fI, q_fR, q_aI, q_aR, q_aN, q_tn, q_cmp, q_cmz, q_cnt, q_ctt, q_cand, q_cor, q_vn, q_vI, q_vR, q_vL, q_kI, q_kR, q_kL, q_ckI, envN, argE, List.flatMap_cons, List.flatMap_nil, Value.category, junk, oadd, osub, omul, oand, oor, oxor, odiv, orem, oshl, oshr, oushr, omax, omin]
          simp (disch := first | omega | simp) [rk_i, rk_b, rk_o, st1, kill, Value.category, rcv, nog, inI_b, nI_clamp, nI_ltI, nI_leI, nI_eq, nI_9, nI_6, nI_22, nI_12, nI_180, nI_add, nI_1, hn', ly166, ly179, ly180, hm' 15, hm' 16, mp, r0, r6, r7, clt]
        · rw [w_sco]
          refine ⟨(fun z => by cases z), fun _ => ⟨fun _ => ?_, (fun z => by cases z), fun _ z => absurd rfl z⟩⟩
          refine w_sCe (nI i) (nI (i + 1)) rfl (nI_1 _) rfl ⟨rfl, W_n w - (i + 1), by omega, i + 1, rfl, hi, rfl, f, z205, by rw [uns_s, if_neg c]; exact z52, fun j hj hu => ?_⟩
          by_cases e : j = i
          · subst e; exact absurd hu c
          · exact hx j (by omega) hu
    · have : i = W_n w := by omega
      subst this
      refine ev_F ?_ ⟨fun _ => ⟨rfl, ⟨_, rfl⟩, f, z205, z52, hx⟩, fun z => (by cases z)⟩
      simp only [f_mkF, w_sI, w_sR, w_sL, w_sC, w_sk, w_sbr, w_sco, w_rV, w_rI, w_rR, w_rL, w_dI, w_sO, w_sq, w_si, w_pI, w_pZ, w_pR, w_pU, w_qI, w_qB, w_qZ, w_qU, w_qR, w_kV, q_icst, q_lcst, q_xR, q_ldI, q_ldR, q_ldL, q_bn, q_un, q_dv, q_fI, q_fR, q_aI, q_aR, q_aN, q_tn, q_cmp, q_cmz, q_cnt, q_ctt, q_cand, q_cor, q_vn, q_vI, q_vR, q_vL, q_kI, q_kR, q_kL, q_ckI, envN, argE, List.flatMap_cons, List.flatMap_nil, Value.category, junk, oadd, osub, omul, oand, oor, oxor, odiv, orem, oshl, oshr, oushr, omax, omin]
      simp (disch := first | omega | simp) [rk_i, rk_b, rk_o, st1, kill, Value.category, rcv, nog, inI_b, nI_clamp, nI_ltI, nI_leI, nI_eq, nI_9, nI_6, nI_22, nI_12, nI_180, nI_add, nI_1, hn', ly166, ly172, hm' 8, mp, ht, d72]
  rintro E1 h2 ⟨⟨x, rfl⟩, f2, y205, y52, y204⟩
  have m2 := m.ftr f2
  have hn2 := m2.1.1
  generalize hU : uns (W_R w) (W_n w) = U at *
  have k8 : (8 : Int32) = nI 8 := rfl
  by_cases hU8 : U ≤ 8
  · refine w_sq.mpr ((w_siF ?_).mpr (w_sk2.mpr ?_))
    · simp only [f_mkF, w_sI, w_sR, w_sL, w_sC, w_sk, w_sbr, w_sco, w_rV, w_rI, w_rR, w_rL, w_dI, w_sO, w_sq, w_si, w_pI, w_pZ, w_pR, w_pU, w_qI, w_qB, w_qZ, w_qU, w_qR, w_kV, q_icst, q_lcst, q_xR, q_ldI, q_ldR, q_ldL, q_bn, q_un, q_dv, q_fI, q_fR, q_aI, q_aR, q_aN, q_tn, q_cmp, q_cmz, q_cnt, q_ctt, q_cand, q_cor, q_vn, q_vI, q_vR, q_vL, q_kI, q_kR, q_kL, q_ckI, envN, argE, List.flatMap_cons, List.flatMap_nil, Value.category, junk, oadd, osub, omul, oand, oor, oxor, odiv, orem, oshl, oshr, oushr, omax, omin]
      simp (disch := first | omega | simp) [rk_i, rk_b, rk_o, st1, kill, Value.category, rcv, nog, inI_b, nI_clamp, nI_ltI, nI_leI, nI_eq, nI_9, nI_6, nI_22, nI_12, nI_180, nI_add, nI_1, hn2, ly166, y52, k8, hU8]
    rw [b2_t hU8]
    have pl := pow_le hU8
    refine w_sqS (fun E1 h3 => (∃ x, E1 = [.ref 166, .int (nI (W_f w)), .int (nI t), .int x, junk, junk, junk]) ∧ Fr STr h h3 ∧ h3.2.1 166 52 = nI U ∧ (∀ i, i < W_n w → unq w i = true → h3.2.1 204 (uns (W_R w) i) = nI i) ∧ ∀ u, u ≤ U → h3.2.1 205 u = nI (3 ^ u)) ?_ ?_
    · refine w_sqI (E' := [.ref 166, .int (nI (W_f w)), .int (nI t), .int (nI 0), junk, junk, junk]) (nI 0) (by simp only [f_mkF, w_sI, w_sR, w_sL, w_sC, w_sk, w_sbr, w_sco, w_rV, w_rI, w_rR, w_rL, w_dI, w_sO, w_sq, w_si, w_pI, w_pZ, w_pR, w_pU, w_qI, w_qB, w_qZ, w_qU, w_qR, w_kV, q_icst, q_lcst, q_xR, q_ldI, q_ldR, q_ldL, q_bn, q_un, q_dv, q_fI, q_fR, q_aI, q_aR, q_aN, q_tn, q_cmp, q_cmz, q_cnt, q_ctt, q_cand, q_cor, q_vn, q_vI, q_vR, q_vL, q_kI, q_kR, q_kL, q_ckI, envN, argE, List.flatMap_cons, List.flatMap_nil, Value.category, junk, oadd, osub, omul, oand, oor, oxor, odiv, orem, oshl, oshr, oushr, omax, omin]; simp [nI_0]) rfl ?_
      refine w_lp (fun k E h' => ∃ u, k = U - u ∧ u ≤ U ∧ E = [.ref 166, .int (nI (W_f w)), .int (nI t), .int (nI u), junk, junk, junk] ∧ Fr STr h h' ∧ h'.2.1 166 52 = nI U ∧ (∀ i, i < W_n w → unq w i = true → h'.2.1 204 (uns (W_R w) i) = nI i) ∧ ∀ v, v ≤ u → h'.2.1 205 v = nI (3 ^ v)) ?_ U _ _ ⟨0, rfl, by omega, rfl, f2, y52, y204, fun v hv => by rw [show v = 0 by omega]; exact y205⟩
      rintro k E h' ⟨u, rfl, hu, rfl, f, z52, z204, z205⟩
      have m' := m.ftr f
      have hn' := m'.1.1
      have hm' := m'.1.2.2
      by_cases huU : u < U
      · refine ev_T ?_ ⟨fun z => (by cases z), fun _ => ?_⟩
        · simp only [f_mkF, w_sI, w_sR, w_sL, w_sC, w_sk, w_sbr, w_sco, w_rV, w_rI, w_rR, w_rL, w_dI, w_sO, w_sq, w_si, w_pI, w_pZ, w_pR, w_pU, w_qI, w_qB, w_qZ, w_qU, w_qR, w_kV, q_icst, q_lcst, q_xR, q_ldI, q_ldR, q_ldL, q_bn, q_un, q_dv, q_fI, q_fR, q_aI, q_aR, q_aN, q_tn, q_cmp, q_cmz, q_cnt, q_ctt, q_cand, q_cor, q_vn, q_vI, q_vR, q_vL, q_kI, q_kR, q_kL, q_ckI, envN, argE, List.flatMap_cons, List.flatMap_nil, Value.category, junk, oadd, osub, omul, oand, oor, oxor, odiv, orem, oshl, oshr, oushr, omax, omin]
          simp (disch := first | omega | simp) [rk_i, rk_b, rk_o, st1, kill, Value.category, rcv, nog, inI_b, nI_clamp, nI_ltI, nI_leI, nI_eq, nI_9, nI_6, nI_22, nI_12, nI_180, nI_add, nI_1, hn', ly166, z52, huU]
        have u9 : u < 9 := by omega
        have e3 : 3 * nI (3 ^ u) = nI (3 ^ (u + 1)) := by rw [nI_3, Nat.pow_succ, Nat.mul_comm]
        refine w_qIe 205 (u + 1) (nI (3 ^ (u + 1))) ?_ ?_ ?_ (by omega) rfl (by omega) (by omega) ⟨fun _ => ?_, (fun z => by cases z), fun z => absurd rfl z⟩
        · simp only [f_mkF, w_sI, w_sR, w_sL, w_sC, w_sk, w_sbr, w_sco, w_rV, w_rI, w_rR, w_rL, w_dI, w_sO, w_sq, w_si, w_pI, w_pZ, w_pR, w_pU, w_qI, w_qB, w_qZ, w_qU, w_qR, w_kV, q_icst, q_lcst, q_xR, q_ldI, q_ldR, q_ldL, q_bn, q_un, q_dv, q_fI, q_fR, q_aI, q_aR, q_aN, q_tn, q_cmp, q_cmz, q_cnt, q_ctt, q_cand, q_cor, q_vn, q_vI, q_vR, q_vL, q_kI, q_kR, q_kL, q_ckI, envN, argE, List.flatMap_cons, List.flatMap_nil, Value.category, junk, oadd, osub, omul, oand, oor, oxor, odiv, orem, oshl, oshr, oushr, omax, omin]; simp [rk_i, rk_b, rk_o, st1, kill, Value.category, rcv, nog, hn', ly166, hm' 54, mp]
        · simp only [f_mkF, w_sI, w_sR, w_sL, w_sC, w_sk, w_sbr, w_sco, w_rV, w_rI, w_rR, w_rL, w_dI, w_sO, w_sq, w_si, w_pI, w_pZ, w_pR, w_pU, w_qI, w_qB, w_qZ, w_qU, w_qR, w_kV, q_icst, q_lcst, q_xR, q_ldI, q_ldR, q_ldL, q_bn, q_un, q_dv, q_fI, q_fR, q_aI, q_aR, q_aN, q_tn, q_cmp, q_cmz, q_cnt, q_ctt, q_cand, q_cor, q_vn, q_vI, q_vR, q_vL, q_kI, q_kR, q_kL, q_ckI, envN, argE, List.flatMap_cons, List.flatMap_nil, Value.category, junk, oadd, osub, omul, oand, oor, oxor, odiv, orem, oshl, oshr, oushr, omax, omin]; simp [rk_i, rk_b, rk_o, st1, kill, Value.category, rcv, nog, nI_1]
        · simp only [f_mkF, w_sI, w_sR, w_sL, w_sC, w_sk, w_sbr, w_sco, w_rV, w_rI, w_rR, w_rL, w_dI, w_sO, w_sq, w_si, w_pI, w_pZ, w_pR, w_pU, w_qI, w_qB, w_qZ, w_qU, w_qR, w_kV, q_icst, q_lcst, q_xR, q_ldI, q_ldR, q_ldL, q_bn, q_un, q_dv, q_fI, q_fR, q_aI, q_aR, q_aN, q_tn, q_cmp, q_cmz, q_cnt, q_ctt, q_cand, q_cor, q_vn, q_vI, q_vR, q_vL, q_kI, q_kR, q_kL, q_ckI, envN, argE, List.flatMap_cons, List.flatMap_nil, Value.category, junk, oadd, osub, omul, oand, oor, oxor, odiv, orem, oshl, oshr, oushr, omax, omin]; simp (disch := first | omega | simp) [rk_i, rk_b, rk_o, st1, kill, Value.category, rcv, nog, inI_b, nI_clamp, nI_ltI, nI_leI, nI_eq, nI_9, nI_6, nI_22, nI_12, nI_180, nI_add, nI_1, hn', ly166, ly205, hm' 54, mp, u9, z205 u (Nat.le_refl _), e3]
        refine w_sCe (nI u) (nI (u + 1)) rfl (nI_1 _) rfl ⟨rfl, U - (u + 1), by omega, u + 1, rfl, by omega, rfl, f.w (by unfold STr; omega), by rw [wI_o (by decide)]; exact z52, fun i hi hq => by rw [wI_o (by decide)]; exact z204 i hi hq, fun v hv => ?_⟩
        rw [wI_i]
        by_cases e : v = u + 1
        · rw [if_pos ⟨rfl, e⟩, e]
        · rw [if_neg (fun z => e z.2)]; exact z205 v (by omega)
      · have : u = U := by omega
        subst this
        refine ev_F ?_ ⟨fun _ => ⟨rfl, ⟨_, rfl⟩, f, z52, z204, z205⟩, fun z => (by cases z)⟩
        simp only [f_mkF, w_sI, w_sR, w_sL, w_sC, w_sk, w_sbr, w_sco, w_rV, w_rI, w_rR, w_rL, w_dI, w_sO, w_sq, w_si, w_pI, w_pZ, w_pR, w_pU, w_qI, w_qB, w_qZ, w_qU, w_qR, w_kV, q_icst, q_lcst, q_xR, q_ldI, q_ldR, q_ldL, q_bn, q_un, q_dv, q_fI, q_fR, q_aI, q_aR, q_aN, q_tn, q_cmp, q_cmz, q_cnt, q_ctt, q_cand, q_cor, q_vn, q_vI, q_vR, q_vL, q_kI, q_kR, q_kL, q_ckI, envN, argE, List.flatMap_cons, List.flatMap_nil, Value.category, junk, oadd, osub, omul, oand, oor, oxor, odiv, orem, oshl, oshr, oushr, omax, omin]
        simp (disch := first | omega | simp) [rk_i, rk_b, rk_o, st1, kill, Value.category, rcv, nog, inI_b, nI_clamp, nI_ltI, nI_leI, nI_eq, nI_9, nI_6, nI_22, nI_12, nI_180, nI_add, nI_1, hn', ly166, z52]
    rintro E1 h3 ⟨⟨x3, rfl⟩, f3, w52, w204, w205⟩
    have m3 := m.ftr f3
    have hn3 := m3.1.1
    (refine w_fz fun B hB C hC => ?_); (simp only [f_mkF, w_sI, w_sR, w_sL, w_sC, w_sk, w_sbr, w_sco, w_rV, w_rI, w_rR, w_rL, w_dI, w_sO, w_sq, w_si, w_pI, w_pZ, w_pR, w_pU, w_qI, w_qB, w_qZ, w_qU, w_qR, w_kV, q_icst, q_lcst, q_xR, q_ldI, q_ldR, q_ldL, q_bn, q_un, q_dv, q_fI, q_fR, q_aI, q_aR, q_aN, q_tn, q_cmp, q_cmz, q_cnt, q_ctt, q_cand, q_cor, q_vn, q_vI, q_vR, q_vL, q_kI, q_kR, q_kL, q_ckI, envN, argE, List.flatMap_cons, List.flatMap_nil, Value.category, junk, oadd, osub, omul, oand, oor, oxor, odiv, orem, oshl, oshr, oushr, omax, omin]); (simp (disch := first | omega | simp) [rk_i, rk_b, rk_o, st1, kill, Value.category, rcv, nog, inI_b, nI_clamp, nI_ltI, nI_leI, nI_eq, nI_9, nI_6, nI_22, nI_12, nI_180, nI_add, nI_1, hn3, ly166]); (subst hB hC)
    have f4 : Fr STr h (wI h3 166 41 0) := f3.w (by unfold STr SN; omega)
    have g4 : ∀ a k, ¬ (a = 166 ∧ k = 41) → (wI h3 166 41 0).2.1 a k = h3.2.1 a k := fun a k z => by rw [wI_i, if_neg z]
    have e41 : (wI h3 166 41 0).2.1 166 41 = 0 := by simp [wI_i]
    generalize wI h3 166 41 0 = h4 at *
    have m4 := m.ftr f4
    have hn4 := m4.1.1
    have d724 : h4.2.1 172 t = nI (W_n w) := (f4.2.2 172 t (by unfold STr SN SM; omega)).trans e72
    refine w_fz fun B hB C hC => ?_
    simp only [f_mkF, w_sI, w_sR, w_sL, w_sC, w_sk, w_sbr, w_sco, w_rV, w_rI, w_rR, w_rL, w_dI, w_sO, w_sq, w_si, w_pI, w_pZ, w_pR, w_pU, w_qI, w_qB, w_qZ, w_qU, w_qR, w_kV, q_icst, q_lcst, q_xR, q_ldI, q_ldR, q_ldL, q_bn, q_un, q_dv, q_fI, q_fR, q_aI, q_aR, q_aN, q_tn, q_cmp, q_cmz, q_cnt, q_ctt, q_cand, q_cor, q_vn, q_vI, q_vR, q_vL, q_kI, q_kR, q_kL, q_ckI, envN, argE, List.flatMap_cons, List.flatMap_nil, Value.category, junk, oadd, osub, omul, oand, oor, oxor, odiv, orem, oshl, oshr, oushr, omax, omin]
    simp (disch := first | omega | simp) [rk_i, rk_b, rk_o, st1, kill, Value.category, rcv, nog, inI_b, nI_clamp, nI_ltI, nI_leI, nI_eq, nI_9, nI_6, nI_22, nI_12, nI_180, nI_add, nI_1, hn4, ly166]
    refine fq_mono (m_least m4 d724 (Nat.le_refl _)) ?_
    rintro r h5 ⟨rfl, f5', hmd⟩
    simp
    subst hB hC
    have f5 : Fr STr h h5 := f4.trans (f5'.sub fun a k z => by unfold STr SN; omega)
    have g5 : ∀ a k, a ≠ 196 → ¬ (a = 166 ∧ k = 41) → h5.2.1 a k = h3.2.1 a k := fun a k z1 z2 => (f5'.2.2 a k (fun y => z1 y.1)).trans (g4 a k z2)
    have pos3 : ∀ u, 0 < 3 ^ u := fun u => Nat.pow_pos (by omega)
    refine w_sq.mpr ?_
    refine w_sqI (E' := [.ref 166, .int (nI (W_f w)), .int (nI t), .int (nI 0), junk, junk, junk]) (nI 0) (by simp only [f_mkF, w_sI, w_sR, w_sL, w_sC, w_sk, w_sbr, w_sco, w_rV, w_rI, w_rR, w_rL, w_dI, w_sO, w_sq, w_si, w_pI, w_pZ, w_pR, w_pU, w_qI, w_qB, w_qZ, w_qU, w_qR, w_kV, q_icst, q_lcst, q_xR, q_ldI, q_ldR, q_ldL, q_bn, q_un, q_dv, q_fI, q_fR, q_aI, q_aR, q_aN, q_tn, q_cmp, q_cmz, q_cnt, q_ctt, q_cand, q_cor, q_vn, q_vI, q_vR, q_vL, q_kI, q_kR, q_kL, q_ckI, envN, argE, List.flatMap_cons, List.flatMap_nil, Value.category, junk, oadd, osub, omul, oand, oor, oxor, odiv, orem, oshl, oshr, oushr, omax, omin]; simp [nI_0]) rfl ?_
    refine wp_mono (w_lp (Q := fun o _ _ h' => o = 0 ∧ Fr STr h h' ∧ TRY w h') (fun k E h' => ∃ c v4 v5 v6, k = 3 ^ U - c ∧ c ≤ 3 ^ U ∧ E = [.ref 166, .int (nI (W_f w)), .int (nI t), .int (nI c), v4, v5, v6] ∧ (v4.category = 1 ∧ v5.category = 1 ∧ v6.category = 1) ∧ Fr STr h h' ∧ (h'.2.1 166 41 = 0 ∧ h'.2.1 166 52 = nI U ∧ (∀ i, i < W_n w → unq w i = true → h'.2.1 204 (uns (W_R w) i) = nI i) ∧ (∀ u, u ≤ U → h'.2.1 205 u = nI (3 ^ u)) ∧ ∀ i, i < W_n w → ¬ unq w i = true → h'.2.1 196 i = W_R w i 6) ∧ ∀ c', c' < c → fnd w c' (h'.2.1 206 c')) ?_ (3 ^ U) _ _ ⟨0, junk, junk, junk, rfl, Nat.zero_le _, rfl, ⟨rfl, rfl, rfl⟩, f5, ⟨(f5'.2.2 166 41 (by omega)).trans e41, (g5 166 52 (by omega) (by omega)).trans w52, fun i hi hq => (g5 204 _ (by omega) (by omega)).trans (w204 i hi hq), fun u hu => (g5 205 u (by omega) (by omega)).trans (w205 u hu), fun i hi _ => hmd i hi⟩, fun c' z => by omega⟩) ?_
    · rintro k E h' ⟨c, v4, v5, v6, rfl, hc, rfl, ⟨c4, c5, c6⟩, f, ⟨s41, s52, s204, s205, s196⟩, hF⟩
      have m' := m.ftr f
      have hn' := m'.1.1
      have hm' := m'.1.2.2
      have U9 : U < 9 := by omega
      by_cases hcU : c < 3 ^ U
      · refine ev_T ?_ ⟨fun z => (by cases z), fun _ => ?_⟩
        · simp only [f_mkF, w_sI, w_sR, w_sL, w_sC, w_sk, w_sbr, w_sco, w_rV, w_rI, w_rR, w_rL, w_dI, w_sO, w_sq, w_si, w_pI, w_pZ, w_pR, w_pU, w_qI, w_qB, w_qZ, w_qU, w_qR, w_kV, q_icst, q_lcst, q_xR, q_ldI, q_ldR, q_ldL, q_bn, q_un, q_dv, q_fI, q_fR, q_aI, q_aR, q_aN, q_tn, q_cmp, q_cmz, q_cnt, q_ctt, q_cand, q_cor, q_vn, q_vI, q_vR, q_vL, q_kI, q_kR, q_kL, q_ckI, envN, argE, List.flatMap_cons, List.flatMap_nil, Value.category, junk, oadd, osub, omul, oand, oor, oxor, odiv, orem, oshl, oshr, oushr, omax, omin]
          simp (disch := first | omega | simp) [rk_i, rk_b, rk_o, st1, kill, Value.category, rcv, nog, inI_b, nI_clamp, nI_ltI, nI_leI, nI_eq, nI_9, nI_6, nI_22, nI_12, nI_180, nI_add, nI_1, hn', ly166, ly205, hm' 54, mp, s52, U9, s205 U (Nat.le_refl _), hcU]
        refine w_sqI (E' := [.ref 166, .int (nI (W_f w)), .int (nI t), .int (nI c), .int 1, v5, v6]) 1 (by simp only [f_mkF, w_sI, w_sR, w_sL, w_sC, w_sk, w_sbr, w_sco, w_rV, w_rI, w_rR, w_rL, w_dI, w_sO, w_sq, w_si, w_pI, w_pZ, w_pR, w_pU, w_qI, w_qB, w_qZ, w_qU, w_qR, w_kV, q_icst, q_lcst, q_xR, q_ldI, q_ldR, q_ldL, q_bn, q_un, q_dv, q_fI, q_fR, q_aI, q_aR, q_aN, q_tn, q_cmp, q_cmz, q_cnt, q_ctt, q_cand, q_cor, q_vn, q_vI, q_vR, q_vL, q_kI, q_kR, q_kL, q_ckI, envN, argE, List.flatMap_cons, List.flatMap_nil, Value.category, junk, oadd, osub, omul, oand, oor, oxor, odiv, orem, oshl, oshr, oushr, omax, omin]; simp) (by simp [st1, kill, Value.category]) ?_
        refine w_sqS (fun E1 h6 => ∃ cv v5 v6, E1 = [.ref 166, .int (nI (W_f w)), .int (nI t), .int (nI c), .int cv, v5, v6] ∧ (v5.category = 1 ∧ v6.category = 1) ∧ (cv = 0 ∨ cv = 1) ∧ (cv = 1 ↔ cok w c) ∧ Fr (fun a _ => a = 196) h' h6 ∧ ∀ i, i < W_n w → h6.2.1 196 i = mdc w c i) ?_ ?_
        · refine w_sqI (E' := [.ref 166, .int (nI (W_f w)), .int (nI t), .int (nI c), .int 1, .int (nI 0), v6]) (nI 0) (by simp only [f_mkF, w_sI, w_sR, w_sL, w_sC, w_sk, w_sbr, w_sco, w_rV, w_rI, w_rR, w_rL, w_dI, w_sO, w_sq, w_si, w_pI, w_pZ, w_pR, w_pU, w_qI, w_qB, w_qZ, w_qU, w_qR, w_kV, q_icst, q_lcst, q_xR, q_ldI, q_ldR, q_ldL, q_bn, q_un, q_dv, q_fI, q_fR, q_aI, q_aR, q_aN, q_tn, q_cmp, q_cmz, q_cnt, q_ctt, q_cand, q_cor, q_vn, q_vI, q_vR, q_vL, q_kI, q_kR, q_kL, q_ckI, envN, argE, List.flatMap_cons, List.flatMap_nil, Value.category, junk, oadd, osub, omul, oand, oor, oxor, odiv, orem, oshl, oshr, oushr, omax, omin]; simp [nI_0]) (by simp [st1, kill, Value.category]) ?_
          refine w_lp (fun k E h6 => ∃ u cv v6, k = U - u ∧ u ≤ U ∧ E = [.ref 166, .int (nI (W_f w)), .int (nI t), .int (nI c), .int cv, .int (nI u), v6] ∧ v6.category = 1 ∧ (cv = 0 ∨ cv = 1) ∧ (cv = 1 ↔ ∀ i, i < W_n w → unq w i = true → uns (W_R w) i < u → (mdc w c i).toInt ≤ (W_R w i 7).toInt) ∧ Fr (fun a _ => a = 196) h' h6 ∧ ∀ i, i < W_n w → (unq w i = true → uns (W_R w) i < u → h6.2.1 196 i = mdc w c i) ∧ (¬ unq w i = true → h6.2.1 196 i = mdc w c i)) ?_ U _ _ ⟨0, 1, v6, rfl, by omega, rfl, c6, Or.inr rfl, ⟨fun _ i _ _ z => by omega, fun _ => rfl⟩, Fr.refl _, fun i hi => ⟨fun _ z => by omega, fun z => by unfold mdc; rw [if_neg z]; exact s196 i hi z⟩⟩
          rintro k E h6 ⟨u, cv, v6, rfl, hu, rfl, c6, hcv, hcw, f6, hmm⟩
          have f6' : Fr STr h h6 := f.trans (f6.sub fun a k z => by unfold STr SN; omega)
          have m6 := m.ftr f6'
          have hn6 := m6.1.1
          have hm6 := m6.1.2.2
          have t52 : h6.2.1 166 52 = nI U := (f6.2.2 166 52 (by omega)).trans s52
          by_cases huU : u < U
          · refine ev_T ?_ ⟨fun z => (by cases z), fun _ => ?_⟩
            · simp only [f_mkF, w_sI, w_sR, w_sL, w_sC, w_sk, w_sbr, w_sco, w_rV, w_rI, w_rR, w_rL, w_dI, w_sO, w_sq, w_si, w_pI, w_pZ, w_pR, w_pU, w_qI, w_qB, w_qZ, w_qU, w_qR, w_kV, q_icst, q_lcst, q_xR, q_ldI, q_ldR, q_ldL, q_bn, q_un, q_dv, q_fI, q_fR, q_aI, q_aR, q_aN, q_tn, q_cmp, q_cmz, q_cnt, q_ctt, q_cand, q_cor, q_vn, q_vI, q_vR, q_vL, q_kI, q_kR, q_kL, q_ckI, envN, argE, List.flatMap_cons, List.flatMap_nil, Value.category, junk, oadd, osub, omul, oand, oor, oxor, odiv, orem, oshl, oshr, oushr, omax, omin]
              simp (disch := first | omega | simp) [rk_i, rk_b, rk_o, st1, kill, Value.category, rcv, nog, inI_b, nI_clamp, nI_ltI, nI_leI, nI_eq, nI_9, nI_6, nI_22, nI_12, nI_180, nI_add, nI_1, hn6, ly166, t52, huU]
            obtain ⟨i, i1, i2, i3⟩ := uns_ex w (n := W_n w) (u := u) (by omega)
            obtain ⟨r0, r6, r7⟩ := rows h6 f6' i i1
            have t204 : h6.2.1 204 u = nI i := by rw [f6.2.2 204 u (by omega), ← i3]; exact s204 i i1 i2
            have t205 : h6.2.1 205 u = nI (3 ^ u) := (f6.2.2 205 u (by omega)).trans (s205 u (by omega))
            have u20 : u < 20 := by omega
            have u9 : u < 9 := by omega
            have i22 : i < 22 := by omega
            have pu := pow_le (show u ≤ 8 by omega)
            have pp := pos3 u
            have nz : nI (3 ^ u) ≠ 0 := by rw [← nI_0, ne_eq, nI_eq (by omega) (by omega)]; omega
            have ed : nI c / nI (3 ^ u) = nI (c / 3 ^ u) := nI_div (by omega) (by omega)
            have dl : c / 3 ^ u ≤ c := Nat.div_le_self _ _
            have er : orem (nI (c / 3 ^ u)) 3 = nI (c / 3 ^ u % 3) := nI_rem (by omega) (by omega : 3 < 2 ^ 31)
            have emd : mdc w c i = W_R w i 6 + nI (c / 3 ^ u % 3) := by unfold mdc; rw [if_pos i2, i3]
            refine w_sqI (E' := [.ref 166, .int (nI (W_f w)), .int (nI t), .int (nI c), .int cv, .int (nI u), .int (nI (22 * t + i))]) (nI (22 * t + i)) (by simp only [f_mkF, w_sI, w_sR, w_sL, w_sC, w_sk, w_sbr, w_sco, w_rV, w_rI, w_rR, w_rL, w_dI, w_sO, w_sq, w_si, w_pI, w_pZ, w_pR, w_pU, w_qI, w_qB, w_qZ, w_qU, w_qR, w_kV, q_icst, q_lcst, q_xR, q_ldI, q_ldR, q_ldL, q_bn, q_un, q_dv, q_fI, q_fR, q_aI, q_aR, q_aN, q_tn, q_cmp, q_cmz, q_cnt, q_ctt, q_cand, q_cor, q_vn, q_vI, q_vR, q_vL, q_kI, q_kR, q_kL, q_ckI, envN, argE, List.flatMap_cons, List.flatMap_nil, Value.category, junk, oadd, osub, omul, oand, oor, oxor, odiv, orem, oshl, oshr, oushr, omax, omin]; simp (disch := first | omega | simp) [rk_i, rk_b, rk_o, st1, kill, Value.category, rcv, nog, inI_b, nI_clamp, nI_ltI, nI_leI, nI_eq, nI_9, nI_6, nI_22, nI_12, nI_180, nI_add, nI_1, hn6, ly166, ly204, hm6 53, mp, u20, t204]) (by simp [st1, kill, Value.category]) ?_
            refine w_sqS (fun E1 h7 => E1 = [.ref 166, .int (nI (W_f w)), .int (nI t), .int (nI c), .int cv, .int (nI u), .int (nI (22 * t + i))] ∧ h7 = wI h6 196 i (mdc w c i)) (w_qIe 196 i (mdc w c i) ?_ ?_ ?_ (by omega) rfl i22 (by omega) ⟨rfl, rfl, rfl⟩) ?_
            · simp only [f_mkF, w_sI, w_sR, w_sL, w_sC, w_sk, w_sbr, w_sco, w_rV, w_rI, w_rR, w_rL, w_dI, w_sO, w_sq, w_si, w_pI, w_pZ, w_pR, w_pU, w_qI, w_qB, w_qZ, w_qU, w_qR, w_kV, q_icst, q_lcst, q_xR, q_ldI, q_ldR, q_ldL, q_bn, q_un, q_dv, q_fI, q_fR, q_aI, q_aR, q_aN, q_tn, q_cmp, q_cmz, q_cnt, q_ctt, q_cand, q_cor, q_vn, q_vI, q_vR, q_vL, q_kI, q_kR, q_kL, q_ckI, envN, argE, List.flatMap_cons, List.flatMap_nil, Value.category, junk, oadd, osub, omul, oand, oor, oxor, odiv, orem, oshl, oshr, oushr, omax, omin]; simp [rk_i, rk_b, rk_o, st1, kill, Value.category, rcv, nog, hn6, ly166, hm6 42, mp]
            · simp only [f_mkF, w_sI, w_sR, w_sL, w_sC, w_sk, w_sbr, w_sco, w_rV, w_rI, w_rR, w_rL, w_dI, w_sO, w_sq, w_si, w_pI, w_pZ, w_pR, w_pU, w_qI, w_qB, w_qZ, w_qU, w_qR, w_kV, q_icst, q_lcst, q_xR, q_ldI, q_ldR, q_ldL, q_bn, q_un, q_dv, q_fI, q_fR, q_aI, q_aR, q_aN, q_tn, q_cmp, q_cmz, q_cnt, q_ctt, q_cand, q_cor, q_vn, q_vI, q_vR, q_vL, q_kI, q_kR, q_kL, q_ckI, envN, argE, List.flatMap_cons, List.flatMap_nil, Value.category, junk, oadd, osub, omul, oand, oor, oxor, odiv, orem, oshl, oshr, oushr, omax, omin]; simp (disch := first | omega | simp) [rk_i, rk_b, rk_o, st1, kill, Value.category, rcv, nog, inI_b, nI_clamp, nI_ltI, nI_leI, nI_eq, nI_9, nI_6, nI_22, nI_12, nI_180, nI_add, nI_1, hn6, ly166, ly204, hm6 53, mp, u20, t204]
            · rw [emd, q_bn]
              refine ev_mono (P := fun v h7 => v = W_R w i 6 ∧ h7 = h6) (by simp only [f_mkF, w_sI, w_sR, w_sL, w_sC, w_sk, w_sbr, w_sco, w_rV, w_rI, w_rR, w_rL, w_dI, w_sO, w_sq, w_si, w_pI, w_pZ, w_pR, w_pU, w_qI, w_qB, w_qZ, w_qU, w_qR, w_kV, q_icst, q_lcst, q_xR, q_ldI, q_ldR, q_ldL, q_bn, q_un, q_dv, q_fI, q_fR, q_aI, q_aR, q_aN, q_tn, q_cmp, q_cmz, q_cnt, q_ctt, q_cand, q_cor, q_vn, q_vI, q_vR, q_vL, q_kI, q_kR, q_kL, q_ckI, envN, argE, List.flatMap_cons, List.flatMap_nil, Value.category, junk, oadd, osub, omul, oand, oor, oxor, odiv, orem, oshl, oshr, oushr, omax, omin]; simp (disch := first | omega | simp) [rk_i, rk_b, rk_o, st1, kill, Value.category, rcv, nog, inI_b, nI_clamp, nI_ltI, nI_leI, nI_eq, nI_9, nI_6, nI_22, nI_12, nI_180, nI_add, nI_1, hn6, ly166, ly179, hm6 15, mp, r0, r6]) ?_
              rintro v h7 ⟨rfl, rfl⟩
              rw [q_dv, q_dv]
              refine ev_mono (P := fun v h8 => v = nI c ∧ h8 = h7) (by simp only [f_mkF, w_sI, w_sR, w_sL, w_sC, w_sk, w_sbr, w_sco, w_rV, w_rI, w_rR, w_rL, w_dI, w_sO, w_sq, w_si, w_pI, w_pZ, w_pR, w_pU, w_qI, w_qB, w_qZ, w_qU, w_qR, w_kV, q_icst, q_lcst, q_xR, q_ldI, q_ldR, q_ldL, q_bn, q_un, q_dv, q_fI, q_fR, q_aI, q_aR, q_aN, q_tn, q_cmp, q_cmz, q_cnt, q_ctt, q_cand, q_cor, q_vn, q_vI, q_vR, q_vL, q_kI, q_kR, q_kL, q_ckI, envN, argE, List.flatMap_cons, List.flatMap_nil, Value.category, junk, oadd, osub, omul, oand, oor, oxor, odiv, orem, oshl, oshr, oushr, omax, omin]; simp [rk_i, rk_b, rk_o, st1, kill, Value.category, rcv, nog]) ?_
              rintro v h8 ⟨rfl, rfl⟩
              refine ev_mono (P := fun v h9 => v = nI (3 ^ u) ∧ h9 = h8) (by simp only [f_mkF, w_sI, w_sR, w_sL, w_sC, w_sk, w_sbr, w_sco, w_rV, w_rI, w_rR, w_rL, w_dI, w_sO, w_sq, w_si, w_pI, w_pZ, w_pR, w_pU, w_qI, w_qB, w_qZ, w_qU, w_qR, w_kV, q_icst, q_lcst, q_xR, q_ldI, q_ldR, q_ldL, q_bn, q_un, q_dv, q_fI, q_fR, q_aI, q_aR, q_aN, q_tn, q_cmp, q_cmz, q_cnt, q_ctt, q_cand, q_cor, q_vn, q_vI, q_vR, q_vL, q_kI, q_kR, q_kL, q_ckI, envN, argE, List.flatMap_cons, List.flatMap_nil, Value.category, junk, oadd, osub, omul, oand, oor, oxor, odiv, orem, oshl, oshr, oushr, omax, omin]; simp (disch := first | omega | simp) [rk_i, rk_b, rk_o, st1, kill, Value.category, rcv, nog, inI_b, nI_clamp, nI_ltI, nI_leI, nI_eq, nI_9, nI_6, nI_22, nI_12, nI_180, nI_add, nI_1, hn6, ly166, ly205, hm6 54, mp, u9, t205]) ?_
              rintro v h9 ⟨rfl, rfl⟩
              refine ⟨nz, ?_⟩
              rw [q_icst]
              refine ⟨by decide, ?_, rfl⟩
              show oadd (W_R w i 6) (orem (nI c / nI (3 ^ u)) 3) = _
              rw [ed, er]
            rintro E1 h7 ⟨rfl, hh7⟩
            have f7 : Fr (fun a _ => a = 196) h6 h7 := by rw [hh7]; exact (Fr.refl h6).w rfl
            have e7 : h7.2.1 196 i = mdc w c i := by rw [hh7]; simp [wI_i]
            have e7n : ∀ j, j ≠ i → h7.2.1 196 j = h6.2.1 196 j := fun j hj => by rw [hh7, wI_i, if_neg (fun z => hj z.2)]
            clear hh7
            have f7' : Fr STr h h7 := f6'.trans (f7.sub fun a k z => by unfold STr SN; omega)
            have m7 := m.ftr f7'
            have hn7 := m7.1.1
            have hm7 := m7.1.2.2
            have t204' : h7.2.1 204 u = nI i := (f7.2.2 204 u (by omega)).trans t204
            obtain ⟨-, -, r77⟩ := rows h7 f7' i i1
            obtain ⟨lo, hh, e1, e2, e3, e4, e5⟩ := hW.mi i1
            have dm : c / 3 ^ u % 3 < 3 := Nat.mod_lt _ (by omega)
            have emi : mdc w c i = nI (lo + c / 3 ^ u % 3) := by rw [emd, e1, nI_add]
            have hle : (mdc w c i).toInt ≤ (W_R w i 7).toInt ↔ lo + c / 3 ^ u % 3 ≤ hh := by
              rw [emi, e2, nI_toInt (by omega), nI_toInt (by omega)]
              omega
            have hcv' : cv = 0 ↔ ¬ cv = 1 := by
              rcases hcv with z | z <;> rw [z] <;> decide
            refine w_sIe (E' := [.ref 166, .int (nI (W_f w)), .int (nI t), .int (nI c), .int (b2 (cv = 1 ∧ lo + c / 3 ^ u % 3 ≤ hh)), .int (nI u), .int (nI (22 * t + i))]) (b2 (cv = 1 ∧ lo + c / 3 ^ u % 3 ≤ hh)) ?_ (by simp [st1, kill, Value.category]) ⟨fun _ => ?_, (fun z => by cases z), fun z => absurd rfl z⟩
            · rw [emi] at e7
              rw [e2] at r77
              simp only [f_mkF, w_sI, w_sR, w_sL, w_sC, w_sk, w_sbr, w_sco, w_rV, w_rI, w_rR, w_rL, w_dI, w_sO, w_sq, w_si, w_pI, w_pZ, w_pR, w_pU, w_qI, w_qB, w_qZ, w_qU, w_qR, w_kV, q_icst, q_lcst, q_xR, q_ldI, q_ldR, q_ldL, q_bn, q_un, q_dv, q_fI, q_fR, q_aI, q_aR, q_aN, q_tn, q_cmp, q_cmz, q_cnt, q_ctt, q_cand, q_cor, q_vn, q_vI, q_vR, q_vL, q_kI, q_kR, q_kL, q_ckI, envN, argE, List.flatMap_cons, List.flatMap_nil, Value.category, junk, oadd, osub, omul, oand, oor, oxor, odiv, orem, oshl, oshr, oushr, omax, omin]
              by_cases x1 : cv = 1
              · by_cases x2 : lo + c / 3 ^ u % 3 ≤ hh
                · simp (disch := first | omega | simp) [rk_i, rk_b, rk_o, st1, kill, Value.category, rcv, nog, inI_b, nI_clamp, nI_ltI, nI_leI, nI_eq, nI_9, nI_6, nI_22, nI_12, nI_180, nI_add, nI_1, x1, x2, hn7, ly166, ly204, ly196, ly180, hm7 53, hm7 42, hm7 16, mp, u20, i22, r0, t204', e7, r77, b2]
                · simp (disch := first | omega | simp) [rk_i, rk_b, rk_o, st1, kill, Value.category, rcv, nog, inI_b, nI_clamp, nI_ltI, nI_leI, nI_eq, nI_9, nI_6, nI_22, nI_12, nI_180, nI_add, nI_1, x1, x2, hn7, ly166, ly204, ly196, ly180, hm7 53, hm7 42, hm7 16, mp, u20, i22, r0, t204', e7, r77, b2]
                  try omega
              · have x3 := hcv'.mpr x1
                simp [rk_i, rk_b, rk_o, st1, kill, Value.category, rcv, nog, x3, b2]
            · refine w_sCe (nI u) (nI (u + 1)) rfl (nI_1 _) rfl ⟨rfl, U - (u + 1), by omega, u + 1, _, _, rfl, by omega, rfl, rfl, b2_ok, ?_, f6.trans f7, fun j hj => ⟨fun y1 y2 => ?_, fun y1 => ?_⟩⟩
              · rw [b2_1, hcw]
                constructor
                · rintro ⟨y1, y2⟩ j hj hq hlt
                  by_cases e : uns (W_R w) j = u
                  · have : j = i := uns_inj w hq i2 (e.trans i3.symm)
                    subst this
                    exact hle.mpr y2
                  · exact y1 j hj hq (by omega)
                · intro y
                  exact ⟨fun j hj hq hlt => y j hj hq (by omega), hle.mp (y i i1 i2 (by omega))⟩
              · by_cases e : j = i
                · rw [e]; exact e7
                · rw [e7n j e]
                  have : uns (W_R w) j ≠ u := fun z => e (uns_inj w y1 i2 (z.trans i3.symm))
                  exact (hmm j hj).1 y1 (by omega)
              · have e : j ≠ i := fun z => y1 (by rw [z]; exact i2)
                rw [e7n j e]
                exact (hmm j hj).2 y1
          · have : u = U := by omega
            subst this
            refine ev_F ?_ ⟨fun _ => ⟨rfl, cv, _, v6, rfl, ⟨rfl, c6⟩, hcv, ?_, f6, fun i hi => ?_⟩, fun z => (by cases z)⟩
            · simp only [f_mkF, w_sI, w_sR, w_sL, w_sC, w_sk, w_sbr, w_sco, w_rV, w_rI, w_rR, w_rL, w_dI, w_sO, w_sq, w_si, w_pI, w_pZ, w_pR, w_pU, w_qI, w_qB, w_qZ, w_qU, w_qR, w_kV, q_icst, q_lcst, q_xR, q_ldI, q_ldR, q_ldL, q_bn, q_un, q_dv, q_fI, q_fR, q_aI, q_aR, q_aN, q_tn, q_cmp, q_cmz, q_cnt, q_ctt, q_cand, q_cor, q_vn, q_vI, q_vR, q_vL, q_kI, q_kR, q_kL, q_ckI, envN, argE, List.flatMap_cons, List.flatMap_nil, Value.category, junk, oadd, osub, omul, oand, oor, oxor, odiv, orem, oshl, oshr, oushr, omax, omin]
              simp (disch := first | omega | simp) [rk_i, rk_b, rk_o, st1, kill, Value.category, rcv, nog, inI_b, nI_clamp, nI_ltI, nI_leI, nI_eq, nI_9, nI_6, nI_22, nI_12, nI_180, nI_add, nI_1, hn6, ly166, t52]
            · rw [hcw]
              constructor
              · intro y i hi
                refine ⟨mdc_lo hW hi, ?_⟩
                by_cases q : unq w i = true
                · exact y i hi q (by rw [← hU]; exact uns_lt w q hi)
                · obtain ⟨lo, hh, e1, e2, e3, e4, e5⟩ := hW.mi hi
                  unfold mdc
                  rw [if_neg q, e1, e2, nI_toInt (by omega), nI_toInt (by omega)]
                  omega
              · intro y i hi _ _
                exact (y i hi).2
            · by_cases q : unq w i = true
              · exact (hmm i hi).1 q (by rw [← hU]; exact uns_lt w q hi)
              · exact (hmm i hi).2 q
        rintro E1 h6 ⟨cv, v5, v6, rfl, ⟨c5, c6⟩, hcv, hcw, f6, hmd6⟩
        have f6' : Fr STr h h6 := f.trans (f6.sub fun a k z => by unfold STr SN; omega)
        have m6 := m.ftr f6'
        have hn6 := m6.1.1
        have hm6 := m6.1.2.2
        have hnext : ∀ h8 v4 v5 v6, v4.category = 1 → v5.category = 1 → v6.category = 1 → Fr STr h6 h8 → (∀ a k, a = 204 ∨ a = 205 ∨ (a = 166 ∧ (k = 41 ∨ k = 52)) ∨ a = 196 → h8.2.1 a k = h6.2.1 a k) → (∀ k, k ≠ c → h8.2.1 206 k = h6.2.1 206 k) → fnd w c (h8.2.1 206 c) → wp (sC 3 1) [.ref 166, .int (nI (W_f w)), .int (nI t), .int (nI c), v4, v5, v6] h8 fun o2 _ E2 h3 => o2 = 0 ∧ ∃ k2, k2 < 3 ^ U - c ∧ ∃ c v4 v5 v6, k2 = 3 ^ U - c ∧ c ≤ 3 ^ U ∧ E2 = [.ref 166, .int (nI (W_f w)), .int (nI t), .int (nI c), v4, v5, v6] ∧ (v4.category = 1 ∧ v5.category = 1 ∧ v6.category = 1) ∧ Fr STr h h3 ∧ (h3.2.1 166 41 = 0 ∧ h3.2.1 166 52 = nI U ∧ (∀ i, i < W_n w → unq w i = true → h3.2.1 204 (uns (W_R w) i) = nI i) ∧ (∀ u, u ≤ U → h3.2.1 205 u = nI (3 ^ u)) ∧ ∀ i, i < W_n w → ¬ unq w i = true → h3.2.1 196 i = W_R w i 6) ∧ ∀ c', c' < c → fnd w c' (h3.2.1 206 c') := by
          intro h8 v4 v5 v6 c4 c5 c6 f8 g8 g206 hf8
          refine w_sCe (nI c) (nI (c + 1)) rfl (nI_1 _) (by simp [st1, kill, Value.category]) ⟨rfl, 3 ^ U - (c + 1), by omega, c + 1, v4, v5, v6, rfl, by omega, rfl, ⟨c4, c5, c6⟩, f6'.trans f8, ⟨?_, ?_, fun i hi hq => ?_, fun u hu => ?_, fun i hi hq => ?_⟩, fun c' hc' => ?_⟩
          · rw [g8 166 41 (by omega), f6.2.2 166 41 (by omega)]; exact s41
          · rw [g8 166 52 (by omega), f6.2.2 166 52 (by omega)]; exact s52
          · rw [g8 204 _ (by omega), f6.2.2 204 _ (by omega)]; exact s204 i hi hq
          · rw [g8 205 _ (by omega), f6.2.2 205 _ (by omega)]; exact s205 u hu
          · rw [g8 196 i (by omega), hmd6 i hi]
            unfold mdc
            rw [if_neg hq]
          · by_cases e : c' = c
            · rw [e]; exact hf8
            · rw [g206 c' e, f6.2.2 206 c' (by omega)]
              exact hF c' (by omega)
        have c65 : c < 6561 := by omega
        refine w_sqS (fun E1 h7 => E1 = [.ref 166, .int (nI (W_f w)), .int (nI t), .int (nI c), .int cv, v5, v6] ∧ h7 = wI h6 206 c (-1)) (w_qIe 206 c (-1) ?_ ?_ ?_ (by omega) rfl c65 (by omega) ⟨rfl, rfl, rfl⟩) ?_
        · simp only [f_mkF, w_sI, w_sR, w_sL, w_sC, w_sk, w_sbr, w_sco, w_rV, w_rI, w_rR, w_rL, w_dI, w_sO, w_sq, w_si, w_pI, w_pZ, w_pR, w_pU, w_qI, w_qB, w_qZ, w_qU, w_qR, w_kV, q_icst, q_lcst, q_xR, q_ldI, q_ldR, q_ldL, q_bn, q_un, q_dv, q_fI, q_fR, q_aI, q_aR, q_aN, q_tn, q_cmp, q_cmz, q_cnt, q_ctt, q_cand, q_cor, q_vn, q_vI, q_vR, q_vL, q_kI, q_kR, q_kL, q_ckI, envN, argE, List.flatMap_cons, List.flatMap_nil, Value.category, junk, oadd, osub, omul, oand, oor, oxor, odiv, orem, oshl, oshr, oushr, omax, omin]; simp [rk_i, rk_b, rk_o, st1, kill, Value.category, rcv, nog, hn6, ly166, hm6 55, mp]
        · simp only [f_mkF, w_sI, w_sR, w_sL, w_sC, w_sk, w_sbr, w_sco, w_rV, w_rI, w_rR, w_rL, w_dI, w_sO, w_sq, w_si, w_pI, w_pZ, w_pR, w_pU, w_qI, w_qB, w_qZ, w_qU, w_qR, w_kV, q_icst, q_lcst, q_xR, q_ldI, q_ldR, q_ldL, q_bn, q_un, q_dv, q_fI, q_fR, q_aI, q_aR, q_aN, q_tn, q_cmp, q_cmz, q_cnt, q_ctt, q_cand, q_cor, q_vn, q_vI, q_vR, q_vL, q_kI, q_kR, q_kL, q_ckI, envN, argE, List.flatMap_cons, List.flatMap_nil, Value.category, junk, oadd, osub, omul, oand, oor, oxor, odiv, orem, oshl, oshr, oushr, omax, omin]; simp [rk_i, rk_b, rk_o, st1, kill, Value.category, rcv, nog]
        · simp only [f_mkF, w_sI, w_sR, w_sL, w_sC, w_sk, w_sbr, w_sco, w_rV, w_rI, w_rR, w_rL, w_dI, w_sO, w_sq, w_si, w_pI, w_pZ, w_pR, w_pU, w_qI, w_qB, w_qZ, w_qU, w_qR, w_kV, q_icst, q_lcst, q_xR, q_ldI, q_ldR, q_ldL, q_bn, q_un, q_dv, q_fI, q_fR, q_aI, q_aR, q_aN, q_tn, q_cmp, q_cmz, q_cnt, q_ctt, q_cand, q_cor, q_vn, q_vI, q_vR, q_vL, q_kI, q_kR, q_kL, q_ckI, envN, argE, List.flatMap_cons, List.flatMap_nil, Value.category, junk, oadd, osub, omul, oand, oor, oxor, odiv, orem, oshl, oshr, oushr, omax, omin]; simp [rk_i, rk_b, rk_o, st1, kill, Value.category, rcv, nog]
        rintro E1 h7 ⟨rfl, hh7⟩
        have f7 : Fr (fun a k => a = 206 ∧ k = c) h6 h7 := by rw [hh7]; exact (Fr.refl h6).w ⟨rfl, rfl⟩
        have e7 : h7.2.1 206 c = -1 := by rw [hh7]; simp [wI_i]
        clear hh7
        by_cases hv1 : cv = 1
        · have hok := hcw.mp hv1
          refine w_sq.mpr ((w_siF ?_).mpr (w_sk2.mpr ?_))
          · simp only [f_mkF, w_sI, w_sR, w_sL, w_sC, w_sk, w_sbr, w_sco, w_rV, w_rI, w_rR, w_rL, w_dI, w_sO, w_sq, w_si, w_pI, w_pZ, w_pR, w_pU, w_qI, w_qB, w_qZ, w_qU, w_qR, w_kV, q_icst, q_lcst, q_xR, q_ldI, q_ldR, q_ldL, q_bn, q_un, q_dv, q_fI, q_fR, q_aI, q_aR, q_aN, q_tn, q_cmp, q_cmz, q_cnt, q_ctt, q_cand, q_cor, q_vn, q_vI, q_vR, q_vL, q_kI, q_kR, q_kL, q_ckI, envN, argE, List.flatMap_cons, List.flatMap_nil, Value.category, junk, oadd, osub, omul, oand, oor, oxor, odiv, orem, oshl, oshr, oushr, omax, omin]; simp [hv1]
          have f7' : Fr STr h h7 := f6'.trans (f7.sub fun a k z => by unfold STr; omega)
          have m7 := m.ftr f7'
          have hn7 := m7.1.1
          have hm7 := m7.1.2.2
          have d727 : h7.2.1 172 t = nI (W_n w) := (f7'.2.2 172 t (by unfold STr SN SM; omega)).trans e72
          have e417 : h7.2.1 166 41 = nI 0 := by rw [f7.2.2 166 41 (by omega), f6.2.2 166 41 (by omega)]; exact s41
          refine w_fz fun B hB C hC => ?_
          simp only [f_mkF, w_sI, w_sR, w_sL, w_sC, w_sk, w_sbr, w_sco, w_rV, w_rI, w_rR, w_rL, w_dI, w_sO, w_sq, w_si, w_pI, w_pZ, w_pR, w_pU, w_qI, w_qB, w_qZ, w_qU, w_qR, w_kV, q_icst, q_lcst, q_xR, q_ldI, q_ldR, q_ldL, q_bn, q_un, q_dv, q_fI, q_fR, q_aI, q_aR, q_aN, q_tn, q_cmp, q_cmz, q_cnt, q_ctt, q_cand, q_cor, q_vn, q_vI, q_vR, q_vL, q_kI, q_kR, q_kL, q_ckI, envN, argE, List.flatMap_cons, List.flatMap_nil, Value.category, junk, oadd, osub, omul, oand, oor, oxor, odiv, orem, oshl, oshr, oushr, omax, omin]
          simp (disch := first | omega | simp) [rk_i, rk_b, rk_o, st1, kill, Value.category, rcv, nog, inI_b, nI_clamp, nI_ltI, nI_leI, nI_eq, nI_9, nI_6, nI_22, nI_12, nI_180, nI_add, nI_1, hn7, ly166, ly172, hm7 8, mp, ht, d727]
          refine fq_mono (m_works m7 e417 (by omega) (md := mdc w c) fun i hi => (f7.2.2 196 i (by omega)).trans (hmd6 i hi)) ?_
          rintro r h8 ⟨rfl, f8, -, e51⟩
          simp
          subst hB hC
          have f8' : Fr STr h h8 := f7'.trans (f8.sub fun a k z => Or.inl (Or.inl z))
          have m8 := m.ftr f8'
          have hn8 := m8.1.1
          have hm8 := m8.1.2.2
          refine w_qIe 206 c (own w (stt w 0 (mdc w c) (W_n w)) (W_n w)) ?_ ?_ ?_ (by omega) rfl c65 (by omega) ⟨fun _ => ?_, (fun z => by cases z), fun z => absurd rfl z⟩
          · simp only [f_mkF, w_sI, w_sR, w_sL, w_sC, w_sk, w_sbr, w_sco, w_rV, w_rI, w_rR, w_rL, w_dI, w_sO, w_sq, w_si, w_pI, w_pZ, w_pR, w_pU, w_qI, w_qB, w_qZ, w_qU, w_qR, w_kV, q_icst, q_lcst, q_xR, q_ldI, q_ldR, q_ldL, q_bn, q_un, q_dv, q_fI, q_fR, q_aI, q_aR, q_aN, q_tn, q_cmp, q_cmz, q_cnt, q_ctt, q_cand, q_cor, q_vn, q_vI, q_vR, q_vL, q_kI, q_kR, q_kL, q_ckI, envN, argE, List.flatMap_cons, List.flatMap_nil, Value.category, junk, oadd, osub, omul, oand, oor, oxor, odiv, orem, oshl, oshr, oushr, omax, omin]; simp [rk_i, rk_b, rk_o, st1, kill, Value.category, rcv, nog, hn8, ly166, hm8 55, mp]
          · simp only [f_mkF, w_sI, w_sR, w_sL, w_sC, w_sk, w_sbr, w_sco, w_rV, w_rI, w_rR, w_rL, w_dI, w_sO, w_sq, w_si, w_pI, w_pZ, w_pR, w_pU, w_qI, w_qB, w_qZ, w_qU, w_qR, w_kV, q_icst, q_lcst, q_xR, q_ldI, q_ldR, q_ldL, q_bn, q_un, q_dv, q_fI, q_fR, q_aI, q_aR, q_aN, q_tn, q_cmp, q_cmz, q_cnt, q_ctt, q_cand, q_cor, q_vn, q_vI, q_vR, q_vL, q_kI, q_kR, q_kL, q_ckI, envN, argE, List.flatMap_cons, List.flatMap_nil, Value.category, junk, oadd, osub, omul, oand, oor, oxor, odiv, orem, oshl, oshr, oushr, omax, omin]; simp [rk_i, rk_b, rk_o, st1, kill, Value.category, rcv, nog]
          · simp only [f_mkF, w_sI, w_sR, w_sL, w_sC, w_sk, w_sbr, w_sco, w_rV, w_rI, w_rR, w_rL, w_dI, w_sO, w_sq, w_si, w_pI, w_pZ, w_pR, w_pU, w_qI, w_qB, w_qZ, w_qU, w_qR, w_kV, q_icst, q_lcst, q_xR, q_ldI, q_ldR, q_ldL, q_bn, q_un, q_dv, q_fI, q_fR, q_aI, q_aR, q_aN, q_tn, q_cmp, q_cmz, q_cnt, q_ctt, q_cand, q_cor, q_vn, q_vI, q_vR, q_vL, q_kI, q_kR, q_kL, q_ckI, envN, argE, List.flatMap_cons, List.flatMap_nil, Value.category, junk, oadd, osub, omul, oand, oor, oxor, odiv, orem, oshl, oshr, oushr, omax, omin]; simp [rk_i, rk_b, rk_o, st1, kill, Value.category, rcv, nog, hn8, ly166, e51]
          have f78 : Fr STr h6 h8 := (f7.sub (S' := STr) fun a k z => Or.inr (Or.inl (by omega))).trans (f8.sub fun a k z => Or.inl (Or.inl z))
          refine hnext _ _ _ _ rfl c5 c6 (f78.w (Or.inr (Or.inl (by omega)))) (fun a k z => ?_) (fun k hk => ?_) ?_
          · rw [wI_o (by omega), f8.2.2 a k (by unfold SM; omega), f7.2.2 a k (by omega)]
          · rw [wI_i, if_neg (fun z => hk z.2), f8.2.2 206 k (by unfold SM; omega), f7.2.2 206 k (by omega)]
          · exact Or.inl ⟨hok, by simp [wI_i]⟩
        · have hv0 : cv = 0 := by rcases hcv with z | z; exact z; exact absurd z hv1
          refine w_sq.mpr ((w_siT ?_).mpr ?_)
          · simp only [f_mkF, w_sI, w_sR, w_sL, w_sC, w_sk, w_sbr, w_sco, w_rV, w_rI, w_rR, w_rL, w_dI, w_sO, w_sq, w_si, w_pI, w_pZ, w_pR, w_pU, w_qI, w_qB, w_qZ, w_qU, w_qR, w_kV, q_icst, q_lcst, q_xR, q_ldI, q_ldR, q_ldL, q_bn, q_un, q_dv, q_fI, q_fR, q_aI, q_aR, q_aN, q_tn, q_cmp, q_cmz, q_cnt, q_ctt, q_cand, q_cor, q_vn, q_vI, q_vR, q_vL, q_kI, q_kR, q_kL, q_ckI, envN, argE, List.flatMap_cons, List.flatMap_nil, Value.category, junk, oadd, osub, omul, oand, oor, oxor, odiv, orem, oshl, oshr, oushr, omax, omin]; simp [hv0]
          · rw [w_sco]
            refine ⟨(fun z => by cases z), fun _ => ⟨fun _ => ?_, (fun z => by cases z), fun _ z => absurd rfl z⟩⟩
            refine hnext h7 _ _ _ rfl c5 c6 (f7.sub fun a k z => by unfold STr; omega) (fun a k z => f7.2.2 a k (by omega)) (fun k hk => f7.2.2 206 k (by omega)) ?_
            exact Or.inr ⟨fun z => hv1 (hcw.mpr z), e7⟩
      · have : c = 3 ^ U := by omega
        subst this
        refine ev_F ?_ ⟨fun _ => ⟨rfl, f, ?_⟩, fun z => (by cases z)⟩
        · simp only [f_mkF, w_sI, w_sR, w_sL, w_sC, w_sk, w_sbr, w_sco, w_rV, w_rI, w_rR, w_rL, w_dI, w_sO, w_sq, w_si, w_pI, w_pZ, w_pR, w_pU, w_qI, w_qB, w_qZ, w_qU, w_qR, w_kV, q_icst, q_lcst, q_xR, q_ldI, q_ldR, q_ldL, q_bn, q_un, q_dv, q_fI, q_fR, q_aI, q_aR, q_aN, q_tn, q_cmp, q_cmz, q_cnt, q_ctt, q_cand, q_cor, q_vn, q_vI, q_vR, q_vL, q_kI, q_kR, q_kL, q_ckI, envN, argE, List.flatMap_cons, List.flatMap_nil, Value.category, junk, oadd, osub, omul, oand, oor, oxor, odiv, orem, oshl, oshr, oushr, omax, omin]
          simp (disch := first | omega | simp) [rk_i, rk_b, rk_o, st1, kill, Value.category, rcv, nog, inI_b, nI_clamp, nI_ltI, nI_leI, nI_eq, nI_9, nI_6, nI_22, nI_12, nI_180, nI_add, nI_1, hn', ly166, ly205, hm' 54, mp, s52, U9, s205 U (Nat.le_refl _)]
        · unfold TRY
          rw [hU]
          exact ⟨s52, s204, s205, hF⟩
    · rintro o v E1 h6 ⟨rfl, f6, ty⟩
      refine ⟨fun _ => ?_, fun z => absurd rfl z⟩
      rw [w_rI, q_icst]
      exact Or.inr ⟨rfl, by rw [rk_b]; simp, rfl, f6, fun _ => ty⟩
  · refine w_sq.mpr ((w_siT ?_).mpr ?_)
    · simp only [f_mkF, w_sI, w_sR, w_sL, w_sC, w_sk, w_sbr, w_sco, w_rV, w_rI, w_rR, w_rL, w_dI, w_sO, w_sq, w_si, w_pI, w_pZ, w_pR, w_pU, w_qI, w_qB, w_qZ, w_qU, w_qR, w_kV, q_icst, q_lcst, q_xR, q_ldI, q_ldR, q_ldL, q_bn, q_un, q_dv, q_fI, q_fR, q_aI, q_aR, q_aN, q_tn, q_cmp, q_cmz, q_cnt, q_ctt, q_cand, q_cor, q_vn, q_vI, q_vR, q_vL, q_kI, q_kR, q_kL, q_ckI, envN, argE, List.flatMap_cons, List.flatMap_nil, Value.category, junk, oadd, osub, omul, oand, oor, oxor, odiv, orem, oshl, oshr, oushr, omax, omin]
      simp (disch := first | omega | simp) [rk_i, rk_b, rk_o, st1, kill, Value.category, rcv, nog, inI_b, nI_clamp, nI_ltI, nI_leI, nI_eq, nI_9, nI_6, nI_22, nI_12, nI_180, nI_add, nI_1, hn2, ly166, y52, k8]
      omega
    · rw [w_rI, q_icst, b2_f hU8]
      exact ⟨(fun z => by cases z), fun _ => Or.inr ⟨rfl, by rw [rk_b]; simp, rfl, f2, fun z => absurd z hU8⟩⟩
