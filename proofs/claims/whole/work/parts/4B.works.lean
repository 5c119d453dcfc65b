/-! the reference goes from passing to passing: all of them -/
abbrev eW (w : Wd) (t : Nat) (ow ho e l c : Int32) (i : Nat) (v10 v11 v12 v13 v14 v15 : Value) : En := [.ref 166, .int (nI (W_f w)), .int (nI t), .int (nI (W_n w)), .int ow, .int ho, .int e, .int l, .int c, .int (nI i), v10, v11, v12, v13, v14, v15]
theorem WV.kx {w : Wd} (q : WV w) {i : Nat} (hi : i < W_n w) : W_R w i 0 = nI (kd w i) ∧ kd w i < 8 := by
  have v := (q.2.2.1 i hi).1
  have := clampI v.1
  exact ⟨nI_toI v.1, by unfold kd; omega⟩
theorem lb_k : ∀ k, k < 8 → (nI k = 0 ↔ k = 0) ∧ (nI k = 1 ↔ k = 1) ∧ (nI k = 2 ↔ k = 2) ∧ (nI k = 6 ↔ k = 6) ∧ (nI k = 7 ↔ k = 7) ∧ (if k = 0 then 115 else if k = 1 then 103 else if k = 2 then 119 else if k = 6 then 102 else if k = 7 then 122 else -1) = (if klt k = 9 then (-1 : Int32) else chL (klt k)) := by decide +kernel
theorem m_letter {k : Nat} (hk : k < 8) (h : Hp) : F_X11_letterBy [.int (nI k)] h = some (some (.int (if klt k = 9 then -1 else chL (klt k))), h) := by
  obtain ⟨a0, a1, a2, a3, a4, a5⟩ := lb_k k hk
  rw [← fq_eq, ← a5]
  unfold F_X11_letterBy
  simp only [f_mkF, w_sI, w_sR, w_sL, w_sC, w_sk, w_sbr, w_sco, w_rV, w_rI, w_rR, w_rL, w_dI, w_sO, w_sq, w_si, w_pI, w_pZ, w_pR, w_pU, w_qI, w_qB, w_qZ, w_qU, w_qR, w_kV, q_icst, q_lcst, q_xR, q_ldI, q_ldR, q_ldL, q_bn, q_un, q_dv, q_fI, q_fR, q_aI, q_aR, q_aN, q_tn, q_cmp, q_cmz, q_cnt, q_ctt, q_cand, q_cor, q_vn, q_vI, q_vR, q_vL, q_kI, q_kR, q_kL, q_ckI, envN, argE, List.flatMap_cons, List.flatMap_nil, Value.category, junk, oadd, osub, omul, oand, oor, oxor, odiv, orem, oshl, oshr, oushr, omax, omin]
  simp [rk_i, rk_b, rk_o, st1, kill, Value.category, rcv, nog, a0, a1, a2, a3, a4]
  grind
theorem chL_m : ∀ a, a < 8 → ¬ chL a = -1 := by decide +kernel
def PW (w : Wd) (L : Nat) (i : Nat) (e l c : Int32) : Prop := e = b2 (W_R w L 0 = 3 ∨ W_R w L 0 = 4) ∧ l = W_R w L 3 ∧ c = nI (i - L + 1)
theorem m_works {w : Wd} {t : Nat} {h : Hp} (q : MX w t h) {sp : Nat} (hs1 : h.2.1 166 41 = nI sp) (hs2 : sp < 64) {md : Nat → Int32} (hmd : ∀ i, i < W_n w → h.2.1 196 i = md i) : fq F_X11_works [.ref 166, .int (nI (W_f w)), .int (nI t), .int (nI (W_n w))] h fun r h' => r = none ∧ Fr SM h h' ∧ RM w sp md (W_n w) h' ∧ h'.2.1 166 51 = own w (stt w sp md (W_n w)) (W_n w) := by
  have n20 := q.wv.1
  have ht := q.2.1
  have hn0 := q.1.1
  have hm0 := q.1.2.2
  have hE : envN 16 [Value.ref 166, .int (nI (W_f w)), .int (nI t), .int (nI (W_n w))] = [Value.ref 166, .int (nI (W_f w)), .int (nI t), .int (nI (W_n w)), junk, junk, junk, junk, junk, junk, junk, junk, junk, junk, junk, junk] := rfl
  unfold F_X11_works
  refine f_mkE _ hE (by simp [argE, Value.category]) ?_
  refine w_sqI (W_fo w) (by simp only [f_mkF, w_sI, w_sR, w_sL, w_sC, w_sk, w_sbr, w_sco, w_rV, w_rI, w_rR, w_rL, w_dI, w_sO, w_sq, w_si, w_pI, w_pZ, w_pR, w_pU, w_qI, w_qB, w_qZ, w_qU, w_qR, w_kV, q_icst, q_lcst, q_xR, q_ldI, q_ldR, q_ldL, q_bn, q_un, q_dv, q_fI, q_fR, q_aI, q_aR, q_aN, q_tn, q_cmp, q_cmz, q_cnt, q_ctt, q_cand, q_cor, q_vn, q_vI, q_vR, q_vL, q_kI, q_kR, q_kL, q_ckI, envN, argE, List.flatMap_cons, List.flatMap_nil, Value.category, junk, oadd, osub, omul, oand, oor, oxor, odiv, orem, oshl, oshr, oushr, omax, omin]; simp (disch := first | omega | simp) [rk_i, rk_b, rk_o, st1, kill, Value.category, rcv, nog, inI_b, nI_clamp, nI_ltI, nI_leI, nI_eq, nI_9, nI_6, nI_22, nI_12, nI_180, nI_add, nI_1, hn0, ly166, hm0 6, mp, ly170, ht, q.2.2.2.1.2.1]) rfl ?_
  refine w_sqI (W_fo w) (by simp only [f_mkF, w_sI, w_sR, w_sL, w_sC, w_sk, w_sbr, w_sco, w_rV, w_rI, w_rR, w_rL, w_dI, w_sO, w_sq, w_si, w_pI, w_pZ, w_pR, w_pU, w_qI, w_qB, w_qZ, w_qU, w_qR, w_kV, q_icst, q_lcst, q_xR, q_ldI, q_ldR, q_ldL, q_bn, q_un, q_dv, q_fI, q_fR, q_aI, q_aR, q_aN, q_tn, q_cmp, q_cmz, q_cnt, q_ctt, q_cand, q_cor, q_vn, q_vI, q_vR, q_vL, q_kI, q_kR, q_kL, q_ckI, envN, argE, List.flatMap_cons, List.flatMap_nil, Value.category, junk, oadd, osub, omul, oand, oor, oxor, odiv, orem, oshl, oshr, oushr, omax, omin]; simp [rk_i, rk_b, rk_o, st1, kill, Value.category, rcv, nog]) rfl ?_
  refine w_sqI 0 (by simp only [f_mkF, w_sI, w_sR, w_sL, w_sC, w_sk, w_sbr, w_sco, w_rV, w_rI, w_rR, w_rL, w_dI, w_sO, w_sq, w_si, w_pI, w_pZ, w_pR, w_pU, w_qI, w_qB, w_qZ, w_qU, w_qR, w_kV, q_icst, q_lcst, q_xR, q_ldI, q_ldR, q_ldL, q_bn, q_un, q_dv, q_fI, q_fR, q_aI, q_aR, q_aN, q_tn, q_cmp, q_cmz, q_cnt, q_ctt, q_cand, q_cor, q_vn, q_vI, q_vR, q_vL, q_kI, q_kR, q_kL, q_ckI, envN, argE, List.flatMap_cons, List.flatMap_nil, Value.category, junk, oadd, osub, omul, oand, oor, oxor, odiv, orem, oshl, oshr, oushr, omax, omin]; simp [rk_i, rk_b, rk_o, st1, kill, Value.category, rcv, nog]) rfl ?_
  refine w_sqI 0 (by simp only [f_mkF, w_sI, w_sR, w_sL, w_sC, w_sk, w_sbr, w_sco, w_rV, w_rI, w_rR, w_rL, w_dI, w_sO, w_sq, w_si, w_pI, w_pZ, w_pR, w_pU, w_qI, w_qB, w_qZ, w_qU, w_qR, w_kV, q_icst, q_lcst, q_xR, q_ldI, q_ldR, q_ldL, q_bn, q_un, q_dv, q_fI, q_fR, q_aI, q_aR, q_aN, q_tn, q_cmp, q_cmz, q_cnt, q_ctt, q_cand, q_cor, q_vn, q_vI, q_vR, q_vL, q_kI, q_kR, q_kL, q_ckI, envN, argE, List.flatMap_cons, List.flatMap_nil, Value.category, junk, oadd, osub, omul, oand, oor, oxor, odiv, orem, oshl, oshr, oushr, omax, omin]; simp [rk_i, rk_b, rk_o, st1, kill, Value.category, rcv, nog]) rfl ?_
  refine w_sqI 0 (by simp only [f_mkF, w_sI, w_sR, w_sL, w_sC, w_sk, w_sbr, w_sco, w_rV, w_rI, w_rR, w_rL, w_dI, w_sO, w_sq, w_si, w_pI, w_pZ, w_pR, w_pU, w_qI, w_qB, w_qZ, w_qU, w_qR, w_kV, q_icst, q_lcst, q_xR, q_ldI, q_ldR, q_ldL, q_bn, q_un, q_dv, q_fI, q_fR, q_aI, q_aR, q_aN, q_tn, q_cmp, q_cmz, q_cnt, q_ctt, q_cand, q_cor, q_vn, q_vI, q_vR, q_vL, q_kI, q_kR, q_kL, q_ckI, envN, argE, List.flatMap_cons, List.flatMap_nil, Value.category, junk, oadd, osub, omul, oand, oor, oxor, odiv, orem, oshl, oshr, oushr, omax, omin]; simp [rk_i, rk_b, rk_o, st1, kill, Value.category, rcv, nog]) rfl ?_
  refine w_sq.mpr ?_
  refine w_sqI (nI 0) (by simp only [f_mkF, w_sI, w_sR, w_sL, w_sC, w_sk, w_sbr, w_sco, w_rV, w_rI, w_rR, w_rL, w_dI, w_sO, w_sq, w_si, w_pI, w_pZ, w_pR, w_pU, w_qI, w_qB, w_qZ, w_qU, w_qR, w_kV, q_icst, q_lcst, q_xR, q_ldI, q_ldR, q_ldL, q_bn, q_un, q_dv, q_fI, q_fR, q_aI, q_aR, q_aN, q_tn, q_cmp, q_cmz, q_cnt, q_ctt, q_cand, q_cor, q_vn, q_vI, q_vR, q_vL, q_kI, q_kR, q_kL, q_ckI, envN, argE, List.flatMap_cons, List.flatMap_nil, Value.category, junk, oadd, osub, omul, oand, oor, oxor, odiv, orem, oshl, oshr, oushr, omax, omin]; simp [rk_i, rk_b, rk_o, st1, kill, Value.category, rcv, nog, nI_0]) rfl ?_
  refine wp_mono (w_lp (Q := fun o _ E1 h1 => o = 0 ∧ E1[0]? = some (.ref 166) ∧ E1[4]? = some (.int (own w (stt w sp md (W_n w)) (W_n w))) ∧ Fr SM h h1 ∧ RM w sp md (W_n w) h1) (fun k E h' => ∃ i e l c v10 v11 v12 v13 v14 v15, k = W_n w - i ∧ i ≤ W_n w ∧ E = eW w t (own w (stt w sp md i) i) (frm (W_R w) (W_fo w) i) e l c i v10 v11 v12 v13 v14 v15 ∧ (v10.category = 1 ∧ v11.category = 1 ∧ v12.category = 1 ∧ v13.category = 1 ∧ v14.category = 1 ∧ v15.category = 1) ∧ (stt w sp md i ≠ 0 → e = b2 (W_R w (lft (stt w sp md i) i) 0 = 3 ∨ W_R w (lft (stt w sp md i) i) 0 = 4) ∧ l = W_R w (lft (stt w sp md i) i) 3 ∧ c = nI (i - lft (stt w sp md i) i)) ∧ Fr SM h h' ∧ RM w sp md i h') ?_ (W_n w) _ _ ⟨0, 0, 0, 0, junk, junk, junk, junk, junk, junk, rfl, by omega, rfl, ⟨rfl, rfl, rfl, rfl, rfl, rfl⟩, fun z => absurd rfl z, Fr.refl h, fun k hk => by omega⟩) ?_
  · rintro k E h' ⟨i, e, l, c, v10, v11, v12, v13, v14, v15, rfl, hi', rfl, ⟨c10, c11, c12, c13, c14, c15⟩, hs, f, hR⟩
    have q2 : MX w t h' := q.fr f
    by_cases hi : i < W_n w
    · refine ev_T ?_ ⟨fun z => (by cases z), fun _ => ?_⟩
      · simp only [f_mkF, w_sI, w_sR, w_sL, w_sC, w_sk, w_sbr, w_sco, w_rV, w_rI, w_rR, w_rL, w_dI, w_sO, w_sq, w_si, w_pI, w_pZ, w_pR, w_pU, w_qI, w_qB, w_qZ, w_qU, w_qR, w_kV, q_icst, q_lcst, q_xR, q_ldI, q_ldR, q_ldL, q_bn, q_un, q_dv, q_fI, q_fR, q_aI, q_aR, q_aN, q_tn, q_cmp, q_cmz, q_cnt, q_ctt, q_cand, q_cor, q_vn, q_vI, q_vR, q_vL, q_kI, q_kR, q_kL, q_ckI, envN, argE, List.flatMap_cons, List.flatMap_nil, Value.category, junk, oadd, osub, omul, oand, oor, oxor, odiv, orem, oshl, oshr, oushr, omax, omin]
        simp (disch := first | omega | simp) [rk_i, rk_b, rk_o, st1, kill, Value.category, rcv, nog, inI_b, nI_clamp, nI_ltI, nI_leI, nI_eq, nI_9, nI_6, nI_22, nI_12, nI_180, nI_add, nI_1, hi]
      have nb := stt_nb w sp md i
      have hnx : stt w sp md (i + 1) = nxt w sp i (stt w sp md i) (md i) := rfl
      have htl : tlt w sp md i = own w (hnd w sp i (stt w sp md i) (md i)) (i + 1) := rfl
      have htm : tmi w sp md i = if hnd w sp i (stt w sp md i) (md i) = 0 then -1 else ofM (wtm w i (hnd w sp i (stt w sp md i) (md i) - 1) (md i)) := rfl
      generalize hS : stt w sp md i = s at *
      have hL := nb.l
      have hn := q2.1.1
      have hm := q2.1.2.2
      obtain ⟨r0, r1, r2, r3, r4, r5, r6⟩ := q2.row hi
      obtain ⟨k1, k2⟩ := q2.wv.kx hi
      obtain ⟨j2, j3, j4, j5⟩ := kd_2 _ k2
      obtain ⟨m1, m2, m3, m4⟩ := mth_ok q2.wv hi
      have m5 := lst_le q2.wv i hi
      have i22 : i < 22 := by omega
      have cA : (own w s i = frm (W_R w) (W_fo w) i) ↔ s = 0 := eq_comm.trans nb.e
      refine w_sqI (E' := eW w t (own w s i) (frm (W_R w) (W_fo w) i) e l c i (.int (nI (22 * t + i))) v11 v12 v13 v14 v15) (nI (22 * t + i)) (by simp only [f_mkF, w_sI, w_sR, w_sL, w_sC, w_sk, w_sbr, w_sco, w_rV, w_rI, w_rR, w_rL, w_dI, w_sO, w_sq, w_si, w_pI, w_pZ, w_pR, w_pU, w_qI, w_qB, w_qZ, w_qU, w_qR, w_kV, q_icst, q_lcst, q_xR, q_ldI, q_ldR, q_ldL, q_bn, q_un, q_dv, q_fI, q_fR, q_aI, q_aR, q_aN, q_tn, q_cmp, q_cmz, q_cnt, q_ctt, q_cand, q_cor, q_vn, q_vI, q_vR, q_vL, q_kI, q_kR, q_kL, q_ckI, envN, argE, List.flatMap_cons, List.flatMap_nil, Value.category, junk, oadd, osub, omul, oand, oor, oxor, odiv, orem, oshl, oshr, oushr, omax, omin]; simp [rk_i, rk_b, rk_o, st1, kill, Value.category, rcv, nog, nI_22, nI_add]) (by simp [st1, kill, Value.category]) ?_
      refine w_sqI (E' := eW w t (own w s i) (frm (W_R w) (W_fo w) i) e l c i (.int (nI (22 * t + i))) (.int (nI (kd w i))) v12 v13 v14 v15) (nI (kd w i)) (by simp only [f_mkF, w_sI, w_sR, w_sL, w_sC, w_sk, w_sbr, w_sco, w_rV, w_rI, w_rR, w_rL, w_dI, w_sO, w_sq, w_si, w_pI, w_pZ, w_pR, w_pU, w_qI, w_qB, w_qZ, w_qU, w_qR, w_kV, q_icst, q_lcst, q_xR, q_ldI, q_ldR, q_ldL, q_bn, q_un, q_dv, q_fI, q_fR, q_aI, q_aR, q_aN, q_tn, q_cmp, q_cmz, q_cnt, q_ctt, q_cand, q_cor, q_vn, q_vI, q_vR, q_vL, q_kI, q_kR, q_kL, q_ckI, envN, argE, List.flatMap_cons, List.flatMap_nil, Value.category, junk, oadd, osub, omul, oand, oor, oxor, odiv, orem, oshl, oshr, oushr, omax, omin]; simp (disch := first | omega | simp) [rk_i, rk_b, rk_o, st1, kill, Value.category, rcv, nog, inI_b, nI_clamp, nI_ltI, nI_leI, nI_eq, nI_9, nI_6, nI_22, nI_12, nI_180, nI_add, nI_1, hn, ly166, hm 9, mp, ly173, r0, r1, k1]) (by simp [st1, kill, Value.category]) ?_
      refine w_sqI (E' := eW w t (own w s i) (frm (W_R w) (W_fo w) i) e l c i (.int (nI (22 * t + i))) (.int (nI (kd w i))) (.int (W_R w i 1)) v13 v14 v15) (W_R w i 1) (by simp only [f_mkF, w_sI, w_sR, w_sL, w_sC, w_sk, w_sbr, w_sco, w_rV, w_rI, w_rR, w_rL, w_dI, w_sO, w_sq, w_si, w_pI, w_pZ, w_pR, w_pU, w_qI, w_qB, w_qZ, w_qU, w_qR, w_kV, q_icst, q_lcst, q_xR, q_ldI, q_ldR, q_ldL, q_bn, q_un, q_dv, q_fI, q_fR, q_aI, q_aR, q_aN, q_tn, q_cmp, q_cmz, q_cnt, q_ctt, q_cand, q_cor, q_vn, q_vI, q_vR, q_vL, q_kI, q_kR, q_kL, q_ckI, envN, argE, List.flatMap_cons, List.flatMap_nil, Value.category, junk, oadd, osub, omul, oand, oor, oxor, odiv, orem, oshl, oshr, oushr, omax, omin]; simp (disch := first | omega | simp) [rk_i, rk_b, rk_o, st1, kill, Value.category, rcv, nog, inI_b, nI_clamp, nI_ltI, nI_leI, nI_eq, nI_9, nI_6, nI_22, nI_12, nI_180, nI_add, nI_1, hn, ly166, hm 10, mp, ly174, r0, r2]) (by simp [st1, kill, Value.category]) ?_
      refine w_sqI (E' := eW w t (own w s i) (frm (W_R w) (W_fo w) i) e l c i (.int (nI (22 * t + i))) (.int (nI (kd w i))) (.int (W_R w i 1)) (.int (b2 (s = 0))) v14 v15) (b2 (s = 0)) (by simp only [f_mkF, w_sI, w_sR, w_sL, w_sC, w_sk, w_sbr, w_sco, w_rV, w_rI, w_rR, w_rL, w_dI, w_sO, w_sq, w_si, w_pI, w_pZ, w_pR, w_pU, w_qI, w_qB, w_qZ, w_qU, w_qR, w_kV, q_icst, q_lcst, q_xR, q_ldI, q_ldR, q_ldL, q_bn, q_un, q_dv, q_fI, q_fR, q_aI, q_aR, q_aN, q_tn, q_cmp, q_cmz, q_cnt, q_ctt, q_cand, q_cor, q_vn, q_vI, q_vR, q_vL, q_kI, q_kR, q_kL, q_ckI, envN, argE, List.flatMap_cons, List.flatMap_nil, Value.category, junk, oadd, osub, omul, oand, oor, oxor, odiv, orem, oshl, oshr, oushr, omax, omin]; simp [rk_i, rk_b, rk_o, st1, kill, Value.category, rcv, nog, nb.e, b2]; try grind) (by simp [st1, kill, Value.category]) ?_
      refine w_sqS (fun E1 h1 => E1 = eW w t (own w s i) (frm (W_R w) (W_fo w) i) e l c i (.int (nI (22 * t + i))) (.int (nI (kd w i))) (.int (W_R w i 1)) (.int (b2 (s = 0))) v14 v15 ∧ h1 = wI h' 197 i (own w s i)) (w_qIe 197 i (own w s i) ?_ ?_ ?_ (by omega) rfl i22 (by omega) ⟨rfl, rfl, rfl⟩) ?_
      · simp only [f_mkF, w_sI, w_sR, w_sL, w_sC, w_sk, w_sbr, w_sco, w_rV, w_rI, w_rR, w_rL, w_dI, w_sO, w_sq, w_si, w_pI, w_pZ, w_pR, w_pU, w_qI, w_qB, w_qZ, w_qU, w_qR, w_kV, q_icst, q_lcst, q_xR, q_ldI, q_ldR, q_ldL, q_bn, q_un, q_dv, q_fI, q_fR, q_aI, q_aR, q_aN, q_tn, q_cmp, q_cmz, q_cnt, q_ctt, q_cand, q_cor, q_vn, q_vI, q_vR, q_vL, q_kI, q_kR, q_kL, q_ckI, envN, argE, List.flatMap_cons, List.flatMap_nil, Value.category, junk, oadd, osub, omul, oand, oor, oxor, odiv, orem, oshl, oshr, oushr, omax, omin]; simp [rk_i, rk_b, rk_o, st1, kill, Value.category, rcv, nog, hn, ly166, hm 43, mp]
      · simp only [f_mkF, w_sI, w_sR, w_sL, w_sC, w_sk, w_sbr, w_sco, w_rV, w_rI, w_rR, w_rL, w_dI, w_sO, w_sq, w_si, w_pI, w_pZ, w_pR, w_pU, w_qI, w_qB, w_qZ, w_qU, w_qR, w_kV, q_icst, q_lcst, q_xR, q_ldI, q_ldR, q_ldL, q_bn, q_un, q_dv, q_fI, q_fR, q_aI, q_aR, q_aN, q_tn, q_cmp, q_cmz, q_cnt, q_ctt, q_cand, q_cor, q_vn, q_vI, q_vR, q_vL, q_kI, q_kR, q_kL, q_ckI, envN, argE, List.flatMap_cons, List.flatMap_nil, Value.category, junk, oadd, osub, omul, oand, oor, oxor, odiv, orem, oshl, oshr, oushr, omax, omin]; simp [rk_i, rk_b, rk_o, st1, kill, Value.category, rcv, nog]
      · simp only [f_mkF, w_sI, w_sR, w_sL, w_sC, w_sk, w_sbr, w_sco, w_rV, w_rI, w_rR, w_rL, w_dI, w_sO, w_sq, w_si, w_pI, w_pZ, w_pR, w_pU, w_qI, w_qB, w_qZ, w_qU, w_qR, w_kV, q_icst, q_lcst, q_xR, q_ldI, q_ldR, q_ldL, q_bn, q_un, q_dv, q_fI, q_fR, q_aI, q_aR, q_aN, q_tn, q_cmp, q_cmz, q_cnt, q_ctt, q_cand, q_cor, q_vn, q_vI, q_vR, q_vL, q_kI, q_kR, q_kL, q_ckI, envN, argE, List.flatMap_cons, List.flatMap_nil, Value.category, junk, oadd, osub, omul, oand, oor, oxor, odiv, orem, oshl, oshr, oushr, omax, omin]; simp [rk_i, rk_b, rk_o, st1, kill, Value.category, rcv, nog]
      rintro E1 h1 ⟨rfl, hh1⟩
      have fa : Fr SM h' h1 := by rw [hh1]; exact (Fr.refl h').w (by unfold SM; omega)
      have q3 : MX w t h1 := q2.fr fa
      have hn3 := q3.1.1
      have hm3 := q3.1.2.2
      obtain ⟨s0, s1, s2, s3, s4, s5, s6⟩ := q3.row hi
      refine w_sqS (fun E1 h2 => h2 = h1 ∧ ∃ e' l' c', E1 = eW w t (own w s i) (frm (W_R w) (W_fo w) i) e' l' c' i (.int (nI (22 * t + i))) (.int (nI (kd w i))) (.int (W_R w i 1)) (.int (b2 (s = 0))) v14 v15 ∧ (s = 0 → 2 < kd w i → PW w i i e' l' c') ∧ (s ≠ 0 → e' = e ∧ l' = l ∧ c' = c)) ?_ ?_
      · by_cases hA : s = 0 ∧ 2 < kd w i
        · refine (w_siT ?_).mpr ?_
          · simp only [f_mkF, w_sI, w_sR, w_sL, w_sC, w_sk, w_sbr, w_sco, w_rV, w_rI, w_rR, w_rL, w_dI, w_sO, w_sq, w_si, w_pI, w_pZ, w_pR, w_pU, w_qI, w_qB, w_qZ, w_qU, w_qR, w_kV, q_icst, q_lcst, q_xR, q_ldI, q_ldR, q_ldL, q_bn, q_un, q_dv, q_fI, q_fR, q_aI, q_aR, q_aN, q_tn, q_cmp, q_cmz, q_cnt, q_ctt, q_cand, q_cor, q_vn, q_vI, q_vR, q_vL, q_kI, q_kR, q_kL, q_ckI, envN, argE, List.flatMap_cons, List.flatMap_nil, Value.category, junk, oadd, osub, omul, oand, oor, oxor, odiv, orem, oshl, oshr, oushr, omax, omin]; simp [rk_i, rk_b, rk_o, st1, kill, Value.category, rcv, nog, b2, hA.1, j2, j3, hA.2]; try omega
          · refine w_sqI (b2 (W_R w i 0 = 3 ∨ W_R w i 0 = 4)) (by simp only [f_mkF, w_sI, w_sR, w_sL, w_sC, w_sk, w_sbr, w_sco, w_rV, w_rI, w_rR, w_rL, w_dI, w_sO, w_sq, w_si, w_pI, w_pZ, w_pR, w_pU, w_qI, w_qB, w_qZ, w_qU, w_qR, w_kV, q_icst, q_lcst, q_xR, q_ldI, q_ldR, q_ldL, q_bn, q_un, q_dv, q_fI, q_fR, q_aI, q_aR, q_aN, q_tn, q_cmp, q_cmz, q_cnt, q_ctt, q_cand, q_cor, q_vn, q_vI, q_vR, q_vL, q_kI, q_kR, q_kL, q_ckI, envN, argE, List.flatMap_cons, List.flatMap_nil, Value.category, junk, oadd, osub, omul, oand, oor, oxor, odiv, orem, oshl, oshr, oushr, omax, omin]; simp [rk_i, rk_b, rk_o, st1, kill, Value.category, rcv, nog, k1, b2]; grind) rfl ?_
            refine w_sqI (W_R w i 3) (by simp only [f_mkF, w_sI, w_sR, w_sL, w_sC, w_sk, w_sbr, w_sco, w_rV, w_rI, w_rR, w_rL, w_dI, w_sO, w_sq, w_si, w_pI, w_pZ, w_pR, w_pU, w_qI, w_qB, w_qZ, w_qU, w_qR, w_kV, q_icst, q_lcst, q_xR, q_ldI, q_ldR, q_ldL, q_bn, q_un, q_dv, q_fI, q_fR, q_aI, q_aR, q_aN, q_tn, q_cmp, q_cmz, q_cnt, q_ctt, q_cand, q_cor, q_vn, q_vI, q_vR, q_vL, q_kI, q_kR, q_kL, q_ckI, envN, argE, List.flatMap_cons, List.flatMap_nil, Value.category, junk, oadd, osub, omul, oand, oor, oxor, odiv, orem, oshl, oshr, oushr, omax, omin]; simp (disch := first | omega | simp) [rk_i, rk_b, rk_o, st1, kill, Value.category, rcv, nog, inI_b, nI_clamp, nI_ltI, nI_leI, nI_eq, nI_9, nI_6, nI_22, nI_12, nI_180, nI_add, nI_1, hn3, ly166, hm3 12, mp, ly176, s0, s4]) rfl ?_
            refine w_sIe 1 (by simp only [f_mkF, w_sI, w_sR, w_sL, w_sC, w_sk, w_sbr, w_sco, w_rV, w_rI, w_rR, w_rL, w_dI, w_sO, w_sq, w_si, w_pI, w_pZ, w_pR, w_pU, w_qI, w_qB, w_qZ, w_qU, w_qR, w_kV, q_icst, q_lcst, q_xR, q_ldI, q_ldR, q_ldL, q_bn, q_un, q_dv, q_fI, q_fR, q_aI, q_aR, q_aN, q_tn, q_cmp, q_cmz, q_cnt, q_ctt, q_cand, q_cor, q_vn, q_vI, q_vR, q_vL, q_kI, q_kR, q_kL, q_ckI, envN, argE, List.flatMap_cons, List.flatMap_nil, Value.category, junk, oadd, osub, omul, oand, oor, oxor, odiv, orem, oshl, oshr, oushr, omax, omin]; simp [rk_i, rk_b, rk_o, st1, kill, Value.category, rcv, nog]) rfl ⟨rfl, rfl, _, _, _, rfl, fun _ _ => ⟨rfl, rfl, ?_⟩, fun z => absurd hA.1 z⟩
            rw [Nat.sub_self]; rfl
        · refine (w_siF ?_).mpr (w_sk.mpr ⟨rfl, rfl, e, l, c, rfl, fun z1 z2 => absurd ⟨z1, z2⟩ hA, fun _ => ⟨rfl, rfl, rfl⟩⟩)
          simp only [f_mkF, w_sI, w_sR, w_sL, w_sC, w_sk, w_sbr, w_sco, w_rV, w_rI, w_rR, w_rL, w_dI, w_sO, w_sq, w_si, w_pI, w_pZ, w_pR, w_pU, w_qI, w_qB, w_qZ, w_qU, w_qR, w_kV, q_icst, q_lcst, q_xR, q_ldI, q_ldR, q_ldL, q_bn, q_un, q_dv, q_fI, q_fR, q_aI, q_aR, q_aN, q_tn, q_cmp, q_cmz, q_cnt, q_ctt, q_cand, q_cor, q_vn, q_vI, q_vR, q_vL, q_kI, q_kR, q_kL, q_ckI, envN, argE, List.flatMap_cons, List.flatMap_nil, Value.category, junk, oadd, osub, omul, oand, oor, oxor, odiv, orem, oshl, oshr, oushr, omax, omin]; simp [rk_i, rk_b, rk_o, st1, kill, Value.category, rcv, nog, b2_0, j2]; grind
      rintro E1 h2 ⟨rfl, e', l', c', rfl, g1, g2⟩
      refine w_sqS (fun E1 h1 => h1 = h2 ∧ ∃ e' l' c', E1 = eW w t (own w s i) (frm (W_R w) (W_fo w) i) e' l' c' i (.int (nI (22 * t + i))) (.int (nI (kd w i))) (.int (W_R w i 1)) (.int (b2 (s = 0))) v14 v15 ∧ (¬ (s = 0 ∧ kd w i ≤ 2) → PW w (lft s i) i e' l' c')) ?_ ?_
      · by_cases hA : s = 0
        · refine (w_siF ?_).mpr (w_sk.mpr ⟨rfl, rfl, e', l', c', rfl, fun z => ?_⟩)
          · simp only [f_mkF, w_sI, w_sR, w_sL, w_sC, w_sk, w_sbr, w_sco, w_rV, w_rI, w_rR, w_rL, w_dI, w_sO, w_sq, w_si, w_pI, w_pZ, w_pR, w_pU, w_qI, w_qB, w_qZ, w_qU, w_qR, w_kV, q_icst, q_lcst, q_xR, q_ldI, q_ldR, q_ldL, q_bn, q_un, q_dv, q_fI, q_fR, q_aI, q_aR, q_aN, q_tn, q_cmp, q_cmz, q_cnt, q_ctt, q_cand, q_cor, q_vn, q_vI, q_vR, q_vL, q_kI, q_kR, q_kL, q_ckI, envN, argE, List.flatMap_cons, List.flatMap_nil, Value.category, junk, oadd, osub, omul, oand, oor, oxor, odiv, orem, oshl, oshr, oushr, omax, omin]; simp [rk_i, rk_b, rk_o, st1, kill, Value.category, rcv, nog, b2, hA]
          · rw [hA, lft_0]
            exact g1 hA (by omega)
        · obtain ⟨z1, z2, z3⟩ := g2 hA
          obtain ⟨y1, y2, y3⟩ := hs hA
          refine (w_siT ?_).mpr (w_sIe (nI (i - lft s i + 1)) ?_ rfl ⟨rfl, rfl, _, _, _, rfl, fun _ => ⟨z1.trans y1, z2.trans y2, rfl⟩⟩)
          · simp only [f_mkF, w_sI, w_sR, w_sL, w_sC, w_sk, w_sbr, w_sco, w_rV, w_rI, w_rR, w_rL, w_dI, w_sO, w_sq, w_si, w_pI, w_pZ, w_pR, w_pU, w_qI, w_qB, w_qZ, w_qU, w_qR, w_kV, q_icst, q_lcst, q_xR, q_ldI, q_ldR, q_ldL, q_bn, q_un, q_dv, q_fI, q_fR, q_aI, q_aR, q_aN, q_tn, q_cmp, q_cmz, q_cnt, q_ctt, q_cand, q_cor, q_vn, q_vI, q_vR, q_vL, q_kI, q_kR, q_kL, q_ckI, envN, argE, List.flatMap_cons, List.flatMap_nil, Value.category, junk, oadd, osub, omul, oand, oor, oxor, odiv, orem, oshl, oshr, oushr, omax, omin]; simp [rk_i, rk_b, rk_o, st1, kill, Value.category, rcv, nog, b2, hA]
          · simp only [f_mkF, w_sI, w_sR, w_sL, w_sC, w_sk, w_sbr, w_sco, w_rV, w_rI, w_rR, w_rL, w_dI, w_sO, w_sq, w_si, w_pI, w_pZ, w_pR, w_pU, w_qI, w_qB, w_qZ, w_qU, w_qR, w_kV, q_icst, q_lcst, q_xR, q_ldI, q_ldR, q_ldL, q_bn, q_un, q_dv, q_fI, q_fR, q_aI, q_aR, q_aN, q_tn, q_cmp, q_cmz, q_cnt, q_ctt, q_cand, q_cor, q_vn, q_vI, q_vR, q_vL, q_kI, q_kR, q_kL, q_ckI, envN, argE, List.flatMap_cons, List.flatMap_nil, Value.category, junk, oadd, osub, omul, oand, oor, oxor, odiv, orem, oshl, oshr, oushr, omax, omin]; simp [rk_i, rk_b, rk_o, st1, kill, Value.category, rcv, nog, z3, y3, nI_1]
      rintro E1 h1 ⟨rfl, e2, l2, c2, rfl, gP⟩
      clear g1 g2
      refine w_sqS (fun E1 h3 => E1 = eW w t (own w s i) (frm (W_R w) (W_fo w) i) e2 l2 c2 i (.int (nI (22 * t + i))) (.int (nI (kd w i))) (.int (W_R w i 1)) (.int (b2 (s = 0))) v14 v15 ∧ h3 = wI h1 198 i e2) (w_qIe 198 i e2 ?_ ?_ ?_ (by omega) rfl i22 (by omega) ⟨rfl, rfl, rfl⟩) ?_
      · simp only [f_mkF, w_sI, w_sR, w_sL, w_sC, w_sk, w_sbr, w_sco, w_rV, w_rI, w_rR, w_rL, w_dI, w_sO, w_sq, w_si, w_pI, w_pZ, w_pR, w_pU, w_qI, w_qB, w_qZ, w_qU, w_qR, w_kV, q_icst, q_lcst, q_xR, q_ldI, q_ldR, q_ldL, q_bn, q_un, q_dv, q_fI, q_fR, q_aI, q_aR, q_aN, q_tn, q_cmp, q_cmz, q_cnt, q_ctt, q_cand, q_cor, q_vn, q_vI, q_vR, q_vL, q_kI, q_kR, q_kL, q_ckI, envN, argE, List.flatMap_cons, List.flatMap_nil, Value.category, junk, oadd, osub, omul, oand, oor, oxor, odiv, orem, oshl, oshr, oushr, omax, omin]; simp [rk_i, rk_b, rk_o, st1, kill, Value.category, rcv, nog, hn3, ly166, hm3 44, mp]
      · simp only [f_mkF, w_sI, w_sR, w_sL, w_sC, w_sk, w_sbr, w_sco, w_rV, w_rI, w_rR, w_rL, w_dI, w_sO, w_sq, w_si, w_pI, w_pZ, w_pR, w_pU, w_qI, w_qB, w_qZ, w_qU, w_qR, w_kV, q_icst, q_lcst, q_xR, q_ldI, q_ldR, q_ldL, q_bn, q_un, q_dv, q_fI, q_fR, q_aI, q_aR, q_aN, q_tn, q_cmp, q_cmz, q_cnt, q_ctt, q_cand, q_cor, q_vn, q_vI, q_vR, q_vL, q_kI, q_kR, q_kL, q_ckI, envN, argE, List.flatMap_cons, List.flatMap_nil, Value.category, junk, oadd, osub, omul, oand, oor, oxor, odiv, orem, oshl, oshr, oushr, omax, omin]; simp [rk_i, rk_b, rk_o, st1, kill, Value.category, rcv, nog]
      · simp only [f_mkF, w_sI, w_sR, w_sL, w_sC, w_sk, w_sbr, w_sco, w_rV, w_rI, w_rR, w_rL, w_dI, w_sO, w_sq, w_si, w_pI, w_pZ, w_pR, w_pU, w_qI, w_qB, w_qZ, w_qU, w_qR, w_kV, q_icst, q_lcst, q_xR, q_ldI, q_ldR, q_ldL, q_bn, q_un, q_dv, q_fI, q_fR, q_aI, q_aR, q_aN, q_tn, q_cmp, q_cmz, q_cnt, q_ctt, q_cand, q_cor, q_vn, q_vI, q_vR, q_vL, q_kI, q_kR, q_kL, q_ckI, envN, argE, List.flatMap_cons, List.flatMap_nil, Value.category, junk, oadd, osub, omul, oand, oor, oxor, odiv, orem, oshl, oshr, oushr, omax, omin]; simp [rk_i, rk_b, rk_o, st1, kill, Value.category, rcv, nog]
      rintro E1 h3 ⟨rfl, rfl⟩
      refine w_sqS (fun E1 h3 => E1 = eW w t (own w s i) (frm (W_R w) (W_fo w) i) e2 l2 c2 i (.int (nI (22 * t + i))) (.int (nI (kd w i))) (.int (W_R w i 1)) (.int (b2 (s = 0))) v14 v15 ∧ h3 = wI (wI h1 198 i e2) 199 i (W_R w i 3 - l2)) (w_qIe 199 i (W_R w i 3 - l2) ?_ ?_ ?_ (by rw [wI_1]; omega) rfl i22 (by omega) ⟨rfl, rfl, rfl⟩) ?_
      · simp only [f_mkF, w_sI, w_sR, w_sL, w_sC, w_sk, w_sbr, w_sco, w_rV, w_rI, w_rR, w_rL, w_dI, w_sO, w_sq, w_si, w_pI, w_pZ, w_pR, w_pU, w_qI, w_qB, w_qZ, w_qU, w_qR, w_kV, q_icst, q_lcst, q_xR, q_ldI, q_ldR, q_ldL, q_bn, q_un, q_dv, q_fI, q_fR, q_aI, q_aR, q_aN, q_tn, q_cmp, q_cmz, q_cnt, q_ctt, q_cand, q_cor, q_vn, q_vI, q_vR, q_vL, q_kI, q_kR, q_kL, q_ckI, envN, argE, List.flatMap_cons, List.flatMap_nil, Value.category, junk, oadd, osub, omul, oand, oor, oxor, odiv, orem, oshl, oshr, oushr, omax, omin]; simp [rk_i, rk_b, rk_o, st1, kill, Value.category, rcv, nog, hn3, ly166, hm3 45, mp, wI_1, wI_r]
      · simp only [f_mkF, w_sI, w_sR, w_sL, w_sC, w_sk, w_sbr, w_sco, w_rV, w_rI, w_rR, w_rL, w_dI, w_sO, w_sq, w_si, w_pI, w_pZ, w_pR, w_pU, w_qI, w_qB, w_qZ, w_qU, w_qR, w_kV, q_icst, q_lcst, q_xR, q_ldI, q_ldR, q_ldL, q_bn, q_un, q_dv, q_fI, q_fR, q_aI, q_aR, q_aN, q_tn, q_cmp, q_cmz, q_cnt, q_ctt, q_cand, q_cor, q_vn, q_vI, q_vR, q_vL, q_kI, q_kR, q_kL, q_ckI, envN, argE, List.flatMap_cons, List.flatMap_nil, Value.category, junk, oadd, osub, omul, oand, oor, oxor, odiv, orem, oshl, oshr, oushr, omax, omin]; simp [rk_i, rk_b, rk_o, st1, kill, Value.category, rcv, nog]
      · simp only [f_mkF, w_sI, w_sR, w_sL, w_sC, w_sk, w_sbr, w_sco, w_rV, w_rI, w_rR, w_rL, w_dI, w_sO, w_sq, w_si, w_pI, w_pZ, w_pR, w_pU, w_qI, w_qB, w_qZ, w_qU, w_qR, w_kV, q_icst, q_lcst, q_xR, q_ldI, q_ldR, q_ldL, q_bn, q_un, q_dv, q_fI, q_fR, q_aI, q_aR, q_aN, q_tn, q_cmp, q_cmz, q_cnt, q_ctt, q_cand, q_cor, q_vn, q_vI, q_vR, q_vL, q_kI, q_kR, q_kL, q_ckI, envN, argE, List.flatMap_cons, List.flatMap_nil, Value.category, junk, oadd, osub, omul, oand, oor, oxor, odiv, orem, oshl, oshr, oushr, omax, omin]; simp (disch := first | omega | simp) [rk_i, rk_b, rk_o, st1, kill, Value.category, rcv, nog, inI_b, nI_clamp, nI_ltI, nI_leI, nI_eq, nI_9, nI_6, nI_22, nI_12, nI_180, nI_add, nI_1, hn3, ly166, hm3 12, mp, ly176, s0, s4, wI_1, wI_r, wI_i]
      rintro E1 h3 ⟨rfl, rfl⟩
      refine w_sqS (fun E1 h3 => E1 = eW w t (own w s i) (frm (W_R w) (W_fo w) i) e2 l2 c2 i (.int (nI (22 * t + i))) (.int (nI (kd w i))) (.int (W_R w i 1)) (.int (b2 (s = 0))) v14 v15 ∧ h3 = wI (wI (wI h1 198 i e2) 199 i (W_R w i 3 - l2)) 200 i c2) (w_qIe 200 i c2 ?_ ?_ ?_ (by rw [wI_1, wI_1]; omega) rfl i22 (by omega) ⟨rfl, rfl, rfl⟩) ?_
      · simp only [f_mkF, w_sI, w_sR, w_sL, w_sC, w_sk, w_sbr, w_sco, w_rV, w_rI, w_rR, w_rL, w_dI, w_sO, w_sq, w_si, w_pI, w_pZ, w_pR, w_pU, w_qI, w_qB, w_qZ, w_qU, w_qR, w_kV, q_icst, q_lcst, q_xR, q_ldI, q_ldR, q_ldL, q_bn, q_un, q_dv, q_fI, q_fR, q_aI, q_aR, q_aN, q_tn, q_cmp, q_cmz, q_cnt, q_ctt, q_cand, q_cor, q_vn, q_vI, q_vR, q_vL, q_kI, q_kR, q_kL, q_ckI, envN, argE, List.flatMap_cons, List.flatMap_nil, Value.category, junk, oadd, osub, omul, oand, oor, oxor, odiv, orem, oshl, oshr, oushr, omax, omin]; simp [rk_i, rk_b, rk_o, st1, kill, Value.category, rcv, nog, hn3, ly166, hm3 46, mp, wI_1, wI_r]
      · simp only [f_mkF, w_sI, w_sR, w_sL, w_sC, w_sk, w_sbr, w_sco, w_rV, w_rI, w_rR, w_rL, w_dI, w_sO, w_sq, w_si, w_pI, w_pZ, w_pR, w_pU, w_qI, w_qB, w_qZ, w_qU, w_qR, w_kV, q_icst, q_lcst, q_xR, q_ldI, q_ldR, q_ldL, q_bn, q_un, q_dv, q_fI, q_fR, q_aI, q_aR, q_aN, q_tn, q_cmp, q_cmz, q_cnt, q_ctt, q_cand, q_cor, q_vn, q_vI, q_vR, q_vL, q_kI, q_kR, q_kL, q_ckI, envN, argE, List.flatMap_cons, List.flatMap_nil, Value.category, junk, oadd, osub, omul, oand, oor, oxor, odiv, orem, oshl, oshr, oushr, omax, omin]; simp [rk_i, rk_b, rk_o, st1, kill, Value.category, rcv, nog]
      · simp only [f_mkF, w_sI, w_sR, w_sL, w_sC, w_sk, w_sbr, w_sco, w_rV, w_rI, w_rR, w_rL, w_dI, w_sO, w_sq, w_si, w_pI, w_pZ, w_pR, w_pU, w_qI, w_qB, w_qZ, w_qU, w_qR, w_kV, q_icst, q_lcst, q_xR, q_ldI, q_ldR, q_ldL, q_bn, q_un, q_dv, q_fI, q_fR, q_aI, q_aR, q_aN, q_tn, q_cmp, q_cmz, q_cnt, q_ctt, q_cand, q_cor, q_vn, q_vI, q_vR, q_vL, q_kI, q_kR, q_kL, q_ckI, envN, argE, List.flatMap_cons, List.flatMap_nil, Value.category, junk, oadd, osub, omul, oand, oor, oxor, odiv, orem, oshl, oshr, oushr, omax, omin]; simp [rk_i, rk_b, rk_o, st1, kill, Value.category, rcv, nog]
      rintro E1 h3 ⟨rfl, hh3⟩
      have fb : Fr SM h1 h3 := by rw [hh3]; exact (((Fr.refl h1).w (by unfold SM; omega)).w (by unfold SM; omega)).w (by unfold SM; omega)
      have b97 : h3.2.1 197 i = own w s i := by rw [hh3, hh1]; simp [wI_i]
      have b98 : h3.2.1 198 i = e2 := by rw [hh3]; simp [wI_i]
      have b99 : h3.2.1 199 i = W_R w i 3 - l2 := by rw [hh3]; simp [wI_i]
      have b00 : h3.2.1 200 i = c2 := by rw [hh3]; simp [wI_i]
      have fk : ∀ a k, (197 ≤ a ∧ a ≤ 203) → k ≠ i → h3.2.1 a k = h'.2.1 a k := fun a k h1 h2 => by rw [hh3, hh1]; simp [wI_i, h2]
      have q4 : MX w t h3 := q3.fr fb
      have fc : Fr SM h h3 := f.trans (fa.trans fb)
      have e96 : h3.2.1 196 i = md i := (fc.2.2 196 i (by unfold SM; omega)).trans (hmd i hi)
      have e41 : h3.2.1 166 41 = nI sp := (fc.2.2 166 41 (by unfold SM; omega)).trans hs1
      clear hh3 hh1 fa fb q3 hn3 hm3 s0 s1 s2 s3 s4 s5 s6
      have hn4 := q4.1.1
      refine w_sqS (fun E1 h4 => Fr SG h3 h4 ∧ E1 = eW w t (tlt w sp md i) (frm (W_R w) (W_fo w) i) e2 l2 c2 i (.int (nI (22 * t + i))) (.int (nI (kd w i))) (.int (W_R w i 1)) (.int (b2 (s = 0))) v14 v15) ?_ ?_
      · rw [htl]
        by_cases hA : s = 0 ∧ kd w i ≤ 2
        · refine (w_siT ?_).mpr (w_sIe (W_R w i 1) (by simp only [f_mkF, w_sI, w_sR, w_sL, w_sC, w_sk, w_sbr, w_sco, w_rV, w_rI, w_rR, w_rL, w_dI, w_sO, w_sq, w_si, w_pI, w_pZ, w_pR, w_pU, w_qI, w_qB, w_qZ, w_qU, w_qR, w_kV, q_icst, q_lcst, q_xR, q_ldI, q_ldR, q_ldL, q_bn, q_un, q_dv, q_fI, q_fR, q_aI, q_aR, q_aN, q_tn, q_cmp, q_cmz, q_cnt, q_ctt, q_cand, q_cor, q_vn, q_vI, q_vR, q_vL, q_kI, q_kR, q_kL, q_ckI, envN, argE, List.flatMap_cons, List.flatMap_nil, Value.category, junk, oadd, osub, omul, oand, oor, oxor, odiv, orem, oshl, oshr, oushr, omax, omin]; simp [rk_i, rk_b, rk_o, st1, kill, Value.category, rcv, nog]) rfl ⟨rfl, Fr.refl _, ?_⟩)
          · simp only [f_mkF, w_sI, w_sR, w_sL, w_sC, w_sk, w_sbr, w_sco, w_rV, w_rI, w_rR, w_rL, w_dI, w_sO, w_sq, w_si, w_pI, w_pZ, w_pR, w_pU, w_qI, w_qB, w_qZ, w_qU, w_qR, w_kV, q_icst, q_lcst, q_xR, q_ldI, q_ldR, q_ldL, q_bn, q_un, q_dv, q_fI, q_fR, q_aI, q_aR, q_aN, q_tn, q_cmp, q_cmz, q_cnt, q_ctt, q_cand, q_cor, q_vn, q_vI, q_vR, q_vL, q_kI, q_kR, q_kL, q_ckI, envN, argE, List.flatMap_cons, List.flatMap_nil, Value.category, junk, oadd, osub, omul, oand, oor, oxor, odiv, orem, oshl, oshr, oushr, omax, omin]; simp [rk_i, rk_b, rk_o, st1, kill, Value.category, rcv, nog, b2, hA.1, j2, j3, hA.2]; try omega
          · unfold hnd
            rw [if_pos (Or.inl hA), own_0, frm_s]
            rfl
        · refine (w_siF ?_).mpr ?_
          · simp only [f_mkF, w_sI, w_sR, w_sL, w_sC, w_sk, w_sbr, w_sco, w_rV, w_rI, w_rR, w_rL, w_dI, w_sO, w_sq, w_si, w_pI, w_pZ, w_pR, w_pU, w_qI, w_qB, w_qZ, w_qU, w_qR, w_kV, q_icst, q_lcst, q_xR, q_ldI, q_ldR, q_ldL, q_bn, q_un, q_dv, q_fI, q_fR, q_aI, q_aR, q_aN, q_tn, q_cmp, q_cmz, q_cnt, q_ctt, q_cand, q_cor, q_vn, q_vI, q_vR, q_vL, q_kI, q_kR, q_kL, q_ckI, envN, argE, List.flatMap_cons, List.flatMap_nil, Value.category, junk, oadd, osub, omul, oand, oor, oxor, odiv, orem, oshl, oshr, oushr, omax, omin]; simp [rk_i, rk_b, rk_o, st1, kill, Value.category, rcv, nog, b2_0, j3]; grind
          obtain ⟨p1, p2, p3⟩ := gP hA
          have el := m_letter k2 h3
          have hcase : klt (kd w i) = 9 ∨ klt (kd w i) < 8 := (ckT_k _ k2).2.2
          rcases hcase with hK | hK
          · refine (w_siF ?_).mpr (w_sk.mpr ⟨rfl, Fr.refl _, ?_⟩)
            · simp only [f_mkF, w_sI, w_sR, w_sL, w_sC, w_sk, w_sbr, w_sco, w_rV, w_rI, w_rR, w_rL, w_dI, w_sO, w_sq, w_si, w_pI, w_pZ, w_pR, w_pU, w_qI, w_qB, w_qZ, w_qU, w_qR, w_kV, q_icst, q_lcst, q_xR, q_ldI, q_ldR, q_ldL, q_bn, q_un, q_dv, q_fI, q_fR, q_aI, q_aR, q_aN, q_tn, q_cmp, q_cmz, q_cnt, q_ctt, q_cand, q_cor, q_vn, q_vI, q_vR, q_vL, q_kI, q_kR, q_kL, q_ckI, envN, argE, List.flatMap_cons, List.flatMap_nil, Value.category, junk, oadd, osub, omul, oand, oor, oxor, odiv, orem, oshl, oshr, oushr, omax, omin]; simp [rk_i, rk_b, rk_o, st1, kill, Value.category, rcv, nog, fq_of el, hK]
            · unfold hnd
              by_cases hB : W_R w i 1 = frm (W_R w) (W_fo w) (lft s i)
              · rw [if_pos (Or.inr (Or.inl hB)), own_0, frm_s, hB]; rfl
              · rw [if_neg (by grind)]; rfl
          · have hK9 : ¬ klt (kd w i) = 9 := by omega
            have hKm := chL_m _ hK
            rw [if_neg hK9] at el
            rw [w_si, q_cand]
            refine ev_mono (P := fun t h5 => t = true ∧ h5 = h3) ?_ ?_
            · simp only [f_mkF, w_sI, w_sR, w_sL, w_sC, w_sk, w_sbr, w_sco, w_rV, w_rI, w_rR, w_rL, w_dI, w_sO, w_sq, w_si, w_pI, w_pZ, w_pR, w_pU, w_qI, w_qB, w_qZ, w_qU, w_qR, w_kV, q_icst, q_lcst, q_xR, q_ldI, q_ldR, q_ldL, q_bn, q_un, q_dv, q_fI, q_fR, q_aI, q_aR, q_aN, q_tn, q_cmp, q_cmz, q_cnt, q_ctt, q_cand, q_cor, q_vn, q_vI, q_vR, q_vL, q_kI, q_kR, q_kL, q_ckI, envN, argE, List.flatMap_cons, List.flatMap_nil, Value.category, junk, oadd, osub, omul, oand, oor, oxor, odiv, orem, oshl, oshr, oushr, omax, omin]; simp [rk_i, rk_b, rk_o, st1, kill, Value.category, rcv, nog, fq_of el, hKm]
            rintro t5 h5 ⟨rfl, rfl⟩
            refine ⟨fun _ => ?_, fun z => by cases z⟩
            rw [q_cnt, q_cmz]
            refine q_kIe [.ref 166, .int (nI (W_f w)), .int (nI t), .int (nI i), .int (nI (kd w i)), .int (chL (klt (kd w i))), .int (frm (W_R w) (W_fo w) (lft s i))] (by simp only [f_mkF, w_sI, w_sR, w_sL, w_sC, w_sk, w_sbr, w_sco, w_rV, w_rI, w_rR, w_rL, w_dI, w_sO, w_sq, w_si, w_pI, w_pZ, w_pR, w_pU, w_qI, w_qB, w_qZ, w_qU, w_qR, w_kV, q_icst, q_lcst, q_xR, q_ldI, q_ldR, q_ldL, q_bn, q_un, q_dv, q_fI, q_fR, q_aI, q_aR, q_aN, q_tn, q_cmp, q_cmz, q_cnt, q_ctt, q_cand, q_cor, q_vn, q_vI, q_vR, q_vL, q_kI, q_kR, q_kL, q_ckI, envN, argE, List.flatMap_cons, List.flatMap_nil, Value.category, junk, oadd, osub, omul, oand, oor, oxor, odiv, orem, oshl, oshr, oushr, omax, omin]; simp [rk_i, rk_b, rk_o, st1, kill, Value.category, rcv, nog, fq_of el, own_l]) (by simp [rcv, hn4, ly166]) ?_
            refine fq_mono (m_gives q4 e41 hs2 (i := i) (left := lft s i) (kind := kd w i) (lt := klt (kd w i)) hi hL (by omega) hK (b98.trans p1) (by rw [b99, p2]) (b00.trans p3)) ?_
            rintro r h6 ⟨rfl, g⟩
            refine ⟨_, rfl, ?_⟩
            rw [e96]
            cases hg : gvs w sp i (lft s i) (md i) (kd w i) (klt (kd w i)) with
            | true =>
              refine ⟨fun _ => ?_, fun z => ?_⟩
              · refine w_sIe (W_R w i 1) (by simp only [f_mkF, w_sI, w_sR, w_sL, w_sC, w_sk, w_sbr, w_sco, w_rV, w_rI, w_rR, w_rL, w_dI, w_sO, w_sq, w_si, w_pI, w_pZ, w_pR, w_pU, w_qI, w_qB, w_qZ, w_qU, w_qR, w_kV, q_icst, q_lcst, q_xR, q_ldI, q_ldR, q_ldL, q_bn, q_un, q_dv, q_fI, q_fR, q_aI, q_aR, q_aN, q_tn, q_cmp, q_cmz, q_cnt, q_ctt, q_cand, q_cor, q_vn, q_vI, q_vR, q_vL, q_kI, q_kR, q_kL, q_ckI, envN, argE, List.flatMap_cons, List.flatMap_nil, Value.category, junk, oadd, osub, omul, oand, oor, oxor, odiv, orem, oshl, oshr, oushr, omax, omin]; simp [rk_i, rk_b, rk_o, st1, kill, Value.category, rcv, nog]) rfl ⟨rfl, g, ?_⟩
                unfold hnd
                rw [if_pos (Or.inr (Or.inr ⟨hK, hg⟩)), own_0, frm_s]
                rfl
              · simp [b2] at z
            | false =>
              refine ⟨fun z => ?_, fun _ => ?_⟩
              · simp [b2] at z
              · refine w_sk.mpr ⟨rfl, g, ?_⟩
                unfold hnd
                by_cases hB : W_R w i 1 = frm (W_R w) (W_fo w) (lft s i)
                · rw [if_pos (Or.inr (Or.inl hB)), own_0, frm_s, hB]; rfl
                · rw [if_neg (by rw [hg]; grind)]; rfl
      rintro E1 h4 ⟨fd, rfl⟩
      have q5 : MX w t h4 := q4.fr (fd.sub fun a k z => SG_SM z)
      have hn5 := q5.1.1
      have hm5 := q5.1.2.2
      obtain ⟨s0, s1, s2, s3, s4, s5, s6⟩ := q5.row hi
      have d97 : h4.2.1 197 i = own w s i := (fd.2.2 197 i (by unfold SG; omega)).trans b97
      refine w_sqI (E' := eW w t (tlt w sp md i) (W_R w i 1) e2 l2 c2 i (.int (nI (22 * t + i))) (.int (nI (kd w i))) (.int (W_R w i 1)) (.int (b2 (s = 0))) v14 v15) (W_R w i 1) (by simp only [f_mkF, w_sI, w_sR, w_sL, w_sC, w_sk, w_sbr, w_sco, w_rV, w_rI, w_rR, w_rL, w_dI, w_sO, w_sq, w_si, w_pI, w_pZ, w_pR, w_pU, w_qI, w_qB, w_qZ, w_qU, w_qR, w_kV, q_icst, q_lcst, q_xR, q_ldI, q_ldR, q_ldL, q_bn, q_un, q_dv, q_fI, q_fR, q_aI, q_aR, q_aN, q_tn, q_cmp, q_cmz, q_cnt, q_ctt, q_cand, q_cor, q_vn, q_vI, q_vR, q_vL, q_kI, q_kR, q_kL, q_ckI, envN, argE, List.flatMap_cons, List.flatMap_nil, Value.category, junk, oadd, osub, omul, oand, oor, oxor, odiv, orem, oshl, oshr, oushr, omax, omin]; simp [rk_i, rk_b, rk_o, st1, kill, Value.category, rcv, nog]) rfl ?_
      refine w_sqS (fun E1 h5 => E1 = eW w t (tlt w sp md i) (W_R w i 1) e2 l2 c2 i (.int (nI (22 * t + i))) (.int (nI (kd w i))) (.int (W_R w i 1)) (.int (b2 (s = 0))) v14 v15 ∧ h5 = wI h4 201 i (tlt w sp md i)) (w_qIe 201 i (tlt w sp md i) ?_ ?_ ?_ (by omega) rfl i22 (by omega) ⟨rfl, rfl, rfl⟩) ?_
      · simp only [f_mkF, w_sI, w_sR, w_sL, w_sC, w_sk, w_sbr, w_sco, w_rV, w_rI, w_rR, w_rL, w_dI, w_sO, w_sq, w_si, w_pI, w_pZ, w_pR, w_pU, w_qI, w_qB, w_qZ, w_qU, w_qR, w_kV, q_icst, q_lcst, q_xR, q_ldI, q_ldR, q_ldL, q_bn, q_un, q_dv, q_fI, q_fR, q_aI, q_aR, q_aN, q_tn, q_cmp, q_cmz, q_cnt, q_ctt, q_cand, q_cor, q_vn, q_vI, q_vR, q_vL, q_kI, q_kR, q_kL, q_ckI, envN, argE, List.flatMap_cons, List.flatMap_nil, Value.category, junk, oadd, osub, omul, oand, oor, oxor, odiv, orem, oshl, oshr, oushr, omax, omin]; simp [rk_i, rk_b, rk_o, st1, kill, Value.category, rcv, nog, hn5, ly166, hm5 47, mp]
      · simp only [f_mkF, w_sI, w_sR, w_sL, w_sC, w_sk, w_sbr, w_sco, w_rV, w_rI, w_rR, w_rL, w_dI, w_sO, w_sq, w_si, w_pI, w_pZ, w_pR, w_pU, w_qI, w_qB, w_qZ, w_qU, w_qR, w_kV, q_icst, q_lcst, q_xR, q_ldI, q_ldR, q_ldL, q_bn, q_un, q_dv, q_fI, q_fR, q_aI, q_aR, q_aN, q_tn, q_cmp, q_cmz, q_cnt, q_ctt, q_cand, q_cor, q_vn, q_vI, q_vR, q_vL, q_kI, q_kR, q_kL, q_ckI, envN, argE, List.flatMap_cons, List.flatMap_nil, Value.category, junk, oadd, osub, omul, oand, oor, oxor, odiv, orem, oshl, oshr, oushr, omax, omin]; simp [rk_i, rk_b, rk_o, st1, kill, Value.category, rcv, nog]
      · simp only [f_mkF, w_sI, w_sR, w_sL, w_sC, w_sk, w_sbr, w_sco, w_rV, w_rI, w_rR, w_rL, w_dI, w_sO, w_sq, w_si, w_pI, w_pZ, w_pR, w_pU, w_qI, w_qB, w_qZ, w_qU, w_qR, w_kV, q_icst, q_lcst, q_xR, q_ldI, q_ldR, q_ldL, q_bn, q_un, q_dv, q_fI, q_fR, q_aI, q_aR, q_aN, q_tn, q_cmp, q_cmz, q_cnt, q_ctt, q_cand, q_cor, q_vn, q_vI, q_vR, q_vL, q_kI, q_kR, q_kL, q_ckI, envN, argE, List.flatMap_cons, List.flatMap_nil, Value.category, junk, oadd, osub, omul, oand, oor, oxor, odiv, orem, oshl, oshr, oushr, omax, omin]; simp [rk_i, rk_b, rk_o, st1, kill, Value.category, rcv, nog]
      rintro E1 h5 ⟨rfl, rfl⟩
      refine w_fz fun B hB C hC => ?_
      have hmk : (if own w s i = W_R w i 1 then (0 : Int32) else if tlt w sp md i = W_R w i 1 then 1 else 0) = b2 (tlt w sp md i ≠ own w s i) := by
        rw [htl, b2_eq (made_iff w sp i s (md i)).symm]
        unfold b2
        grind
      rw [w_sq, w_qZ]
      refine ev_mono (P := fun x h5 => x = 203 ∧ h5 = wI h4 201 i (tlt w sp md i)) (by simp only [f_mkF, w_sI, w_sR, w_sL, w_sC, w_sk, w_sbr, w_sco, w_rV, w_rI, w_rR, w_rL, w_dI, w_sO, w_sq, w_si, w_pI, w_pZ, w_pR, w_pU, w_qI, w_qB, w_qZ, w_qU, w_qR, w_kV, q_icst, q_lcst, q_xR, q_ldI, q_ldR, q_ldL, q_bn, q_un, q_dv, q_fI, q_fR, q_aI, q_aR, q_aN, q_tn, q_cmp, q_cmz, q_cnt, q_ctt, q_cand, q_cor, q_vn, q_vI, q_vR, q_vL, q_kI, q_kR, q_kL, q_ckI, envN, argE, List.flatMap_cons, List.flatMap_nil, Value.category, junk, oadd, osub, omul, oand, oor, oxor, odiv, orem, oshl, oshr, oushr, omax, omin]; simp [rk_i, rk_b, rk_o, st1, kill, Value.category, rcv, nog, hn5, ly166, hm5 49, mp, wI_1, wI_r]) ?_
      rintro x h5 ⟨rfl, rfl⟩
      refine ev_mono (P := fun x h5 => x = nI i ∧ h5 = wI h4 201 i (tlt w sp md i)) (by simp only [f_mkF, w_sI, w_sR, w_sL, w_sC, w_sk, w_sbr, w_sco, w_rV, w_rI, w_rR, w_rL, w_dI, w_sO, w_sq, w_si, w_pI, w_pZ, w_pR, w_pU, w_qI, w_qB, w_qZ, w_qU, w_qR, w_kV, q_icst, q_lcst, q_xR, q_ldI, q_ldR, q_ldL, q_bn, q_un, q_dv, q_fI, q_fR, q_aI, q_aR, q_aN, q_tn, q_cmp, q_cmz, q_cnt, q_ctt, q_cand, q_cor, q_vn, q_vI, q_vR, q_vL, q_kI, q_kR, q_kL, q_ckI, envN, argE, List.flatMap_cons, List.flatMap_nil, Value.category, junk, oadd, osub, omul, oand, oor, oxor, odiv, orem, oshl, oshr, oushr, omax, omin]; simp [rk_i, rk_b, rk_o, st1, kill, Value.category, rcv, nog]) ?_
      rintro x h5 ⟨rfl, rfl⟩
      refine ev_mono (P := fun x h5 => x = b2 (tlt w sp md i ≠ own w s i) ∧ h5 = wI h4 201 i (tlt w sp md i)) ?_ ?_
      · rw [← hmk]
        simp only [f_mkF, w_sI, w_sR, w_sL, w_sC, w_sk, w_sbr, w_sco, w_rV, w_rI, w_rR, w_rL, w_dI, w_sO, w_sq, w_si, w_pI, w_pZ, w_pR, w_pU, w_qI, w_qB, w_qZ, w_qU, w_qR, w_kV, q_icst, q_lcst, q_xR, q_ldI, q_ldR, q_ldL, q_bn, q_un, q_dv, q_fI, q_fR, q_aI, q_aR, q_aN, q_tn, q_cmp, q_cmz, q_cnt, q_ctt, q_cand, q_cor, q_vn, q_vI, q_vR, q_vL, q_kI, q_kR, q_kL, q_ckI, envN, argE, List.flatMap_cons, List.flatMap_nil, Value.category, junk, oadd, osub, omul, oand, oor, oxor, odiv, orem, oshl, oshr, oushr, omax, omin]
        simp (disch := first | omega | simp) [rk_i, rk_b, rk_o, st1, kill, Value.category, rcv, nog, inI_b, nI_clamp, nI_ltI, nI_leI, nI_eq, nI_9, nI_6, nI_22, nI_12, nI_180, nI_add, nI_1, hn5, ly166, hm5 43, mp, ly197, i22, wI_1, wI_r, wI_i, d97]
        grind
      rintro x h5 ⟨rfl, rfl⟩
      have i22' : inI (nI i) 22 = true := by rw [inI_b (by omega)]; simp [i22]
      refine ⟨⟨by rw [wI_1]; omega, rfl, i22', b2_ok⟩, fun _ => ?_, fun z => absurd rfl z⟩
      rw [nI_clamp (by omega)]
      subst hB hC
      refine w_sqS (fun E1 h5 => E1 = eW w t (tlt w sp md i) (W_R w i 1) e2 l2 c2 i (.int (nI (22 * t + i))) (.int (nI (kd w i))) (.int (W_R w i 1)) (.int (b2 (s = 0))) v14 v15 ∧ h5 = wI (wI (wI h4 201 i (tlt w sp md i)) 203 i (b2 (tlt w sp md i ≠ own w s i))) 202 i (-1)) (w_qIe 202 i (-1) ?_ ?_ ?_ (by rw [wI_1, wI_1]; omega) rfl i22 (by omega) ⟨rfl, rfl, rfl⟩) ?_
      · simp only [f_mkF, w_sI, w_sR, w_sL, w_sC, w_sk, w_sbr, w_sco, w_rV, w_rI, w_rR, w_rL, w_dI, w_sO, w_sq, w_si, w_pI, w_pZ, w_pR, w_pU, w_qI, w_qB, w_qZ, w_qU, w_qR, w_kV, q_icst, q_lcst, q_xR, q_ldI, q_ldR, q_ldL, q_bn, q_un, q_dv, q_fI, q_fR, q_aI, q_aR, q_aN, q_tn, q_cmp, q_cmz, q_cnt, q_ctt, q_cand, q_cor, q_vn, q_vI, q_vR, q_vL, q_kI, q_kR, q_kL, q_ckI, envN, argE, List.flatMap_cons, List.flatMap_nil, Value.category, junk, oadd, osub, omul, oand, oor, oxor, odiv, orem, oshl, oshr, oushr, omax, omin]; simp [rk_i, rk_b, rk_o, st1, kill, Value.category, rcv, nog, hn5, ly166, hm5 48, mp, wI_1, wI_r]
      · simp only [f_mkF, w_sI, w_sR, w_sL, w_sC, w_sk, w_sbr, w_sco, w_rV, w_rI, w_rR, w_rL, w_dI, w_sO, w_sq, w_si, w_pI, w_pZ, w_pR, w_pU, w_qI, w_qB, w_qZ, w_qU, w_qR, w_kV, q_icst, q_lcst, q_xR, q_ldI, q_ldR, q_ldL, q_bn, q_un, q_dv, q_fI, q_fR, q_aI, q_aR, q_aN, q_tn, q_cmp, q_cmz, q_cnt, q_ctt, q_cand, q_cor, q_vn, q_vI, q_vR, q_vL, q_kI, q_kR, q_kL, q_ckI, envN, argE, List.flatMap_cons, List.flatMap_nil, Value.category, junk, oadd, osub, omul, oand, oor, oxor, odiv, orem, oshl, oshr, oushr, omax, omin]; simp [rk_i, rk_b, rk_o, st1, kill, Value.category, rcv, nog]
      · simp only [f_mkF, w_sI, w_sR, w_sL, w_sC, w_sk, w_sbr, w_sco, w_rV, w_rI, w_rR, w_rL, w_dI, w_sO, w_sq, w_si, w_pI, w_pZ, w_pR, w_pU, w_qI, w_qB, w_qZ, w_qU, w_qR, w_kV, q_icst, q_lcst, q_xR, q_ldI, q_ldR, q_ldL, q_bn, q_un, q_dv, q_fI, q_fR, q_aI, q_aR, q_aN, q_tn, q_cmp, q_cmz, q_cnt, q_ctt, q_cand, q_cor, q_vn, q_vI, q_vR, q_vL, q_kI, q_kR, q_kL, q_ckI, envN, argE, List.flatMap_cons, List.flatMap_nil, Value.category, junk, oadd, osub, omul, oand, oor, oxor, odiv, orem, oshl, oshr, oushr, omax, omin]; simp [rk_i, rk_b, rk_o, st1, kill, Value.category, rcv, nog]
      rintro E1 h5 ⟨rfl, hh5⟩
      have fe : Fr SM h4 h5 := by rw [hh5]; exact (((Fr.refl h4).w (by unfold SM; omega)).w (by unfold SM; omega)).w (by unfold SM; omega)
      have ff : Fr SM h h5 := fc.trans ((fd.sub fun a k z => SG_SM z).trans fe)
      have o97 : h5.2.1 197 i = own w s i := by rw [hh5]; simp [wI_i, d97]
      have o01 : h5.2.1 201 i = tlt w sp md i := by rw [hh5]; simp [wI_i]
      have o02 : h5.2.1 202 i = -1 := by rw [hh5]; simp [wI_i]
      have o03 : h5.2.1 203 i = b2 (tlt w sp md i ≠ own w s i) := by rw [hh5]; simp [wI_i]
      have o98 : h5.2.1 198 i = e2 := by rw [hh5]; simp [wI_i, fd.2.2 198 i (by unfold SG; omega), b98]
      have o99 : h5.2.1 199 i = W_R w i 3 - l2 := by rw [hh5]; simp [wI_i, fd.2.2 199 i (by unfold SG; omega), b99]
      have o00 : h5.2.1 200 i = c2 := by rw [hh5]; simp [wI_i, fd.2.2 200 i (by unfold SG; omega), b00]
      have ok : ∀ a k, (197 ≤ a ∧ a ≤ 203) → k ≠ i → h5.2.1 a k = h'.2.1 a k := fun a k h1 h2 => by
        rw [← fk a k h1 h2, ← fd.2.2 a k (by unfold SG; omega), hh5]
        simp [wI_i, h2]
      have q6 : MX w t h5 := q5.fr fe
      clear hh5
      obtain ⟨s0, s1, s2, s3, s4, s5, s6⟩ := q6.row hi
      have hn6 := q6.1.1
      have hm6 := q6.1.2.2
      refine w_sqI (E' := eW w t (tlt w sp md i) (W_R w i 1) e2 l2 c2 i (.int (nI (22 * t + i))) (.int (nI (kd w i))) (.int (W_R w i 1)) (.int (b2 (s = 0))) (.int (nI (lst w i))) v15) (nI (lst w i)) ?_ rfl ?_
      · simp only [f_mkF, w_sI, w_sR, w_sL, w_sC, w_sk, w_sbr, w_sco, w_rV, w_rI, w_rR, w_rL, w_dI, w_sO, w_sq, w_si, w_pI, w_pZ, w_pR, w_pU, w_qI, w_qB, w_qZ, w_qU, w_qR, w_kV, q_icst, q_lcst, q_xR, q_ldI, q_ldR, q_ldL, q_bn, q_un, q_dv, q_fI, q_fR, q_aI, q_aR, q_aN, q_tn, q_cmp, q_cmz, q_cnt, q_ctt, q_cand, q_cor, q_vn, q_vI, q_vR, q_vL, q_kI, q_kR, q_kL, q_ckI, envN, argE, List.flatMap_cons, List.flatMap_nil, Value.category, junk, oadd, osub, omul, oand, oor, oxor, odiv, orem, oshl, oshr, oushr, omax, omin]
        by_cases hi1 : i + 1 < W_n w
        · obtain ⟨y0, y1, y2, y3, y4, y5, y6⟩ := q6.row hi1
          obtain ⟨n1, -, -, -⟩ := mth_ok q6.wv hi1
          have y7 : 22 * t + i + 1 < 88 := by omega
          have y8 : h5.2.1 176 (22 * t + i + 1) = nI (mth w (i + 1)) := by rw [← n1, ← y4]; rfl
          simp (disch := first | omega | simp) [rk_i, rk_b, rk_o, st1, kill, Value.category, rcv, nog, hn6, ly166, hm6 12, mp, ly176, inI_b, nI_clamp, nI_ltI, nI_leI, nI_eq, nI_9, nI_6, nI_22, nI_12, nI_180, nI_add, nI_1, hi1, y7, y8, lst]
          first | done | (intro z; omega)
        · simp (disch := first | omega | simp) [rk_i, rk_b, rk_o, st1, kill, Value.category, rcv, nog, hn6, ly166, inI_b, nI_clamp, nI_ltI, nI_leI, nI_eq, nI_9, nI_6, nI_22, nI_12, nI_180, nI_add, nI_1, hi1, lst, q6.2.2.2.2.1]
          first | exact m4 | exact fun _ => m4
      refine w_sqI (E' := eW w t (tlt w sp md i) (W_R w i 1) e2 l2 c2 i (.int (nI (22 * t + i))) (.int (nI (kd w i))) (.int (W_R w i 1)) (.int (b2 (s = 0))) (.int (nI (lst w i))) (.int (nI (mth w i + 1)))) (nI (mth w i + 1)) ?_ rfl ?_
      · simp only [f_mkF, w_sI, w_sR, w_sL, w_sC, w_sk, w_sbr, w_sco, w_rV, w_rI, w_rR, w_rL, w_dI, w_sO, w_sq, w_si, w_pI, w_pZ, w_pR, w_pU, w_qI, w_qB, w_qZ, w_qU, w_qR, w_kV, q_icst, q_lcst, q_xR, q_ldI, q_ldR, q_ldL, q_bn, q_un, q_dv, q_fI, q_fR, q_aI, q_aR, q_aN, q_tn, q_cmp, q_cmz, q_cnt, q_ctt, q_cand, q_cor, q_vn, q_vI, q_vR, q_vL, q_kI, q_kR, q_kL, q_ckI, envN, argE, List.flatMap_cons, List.flatMap_nil, Value.category, junk, oadd, osub, omul, oand, oor, oxor, odiv, orem, oshl, oshr, oushr, omax, omin]
        simp (disch := first | omega | simp) [rk_i, rk_b, rk_o, st1, kill, Value.category, rcv, nog, hn6, ly166, hm6 12, mp, ly176, inI_b, nI_clamp, nI_ltI, nI_leI, nI_eq, nI_9, nI_6, nI_22, nI_12, nI_180, nI_add, nI_1, s0, s4, m1]
      have hfin : ∀ (ow : Int32) (h6 : Hp) (x : Int32), Fr (ST2 i) h5 h6 → ow = own w (nxt w sp i s (md i)) (i + 1) → h6.2.1 202 i = tmi w sp md i → (nxt w sp i s (md i) ≠ 0 → nxt w sp i s (md i) = lft s i + 1 ∧ PW w (lft s i) i e2 l2 c2) → wp (sC 9 1) (eW w t ow (W_R w i 1) e2 l2 c2 i (.int (nI (22 * t + i))) (.int (nI (kd w i))) (.int (W_R w i 1)) (.int (b2 (s = 0))) (.int (nI (lst w i))) (.int x)) h6 fun o2 _ E2 h3 => o2 = 0 ∧ ∃ k2, k2 < W_n w - i ∧ ∃ i e l c v10 v11 v12 v13 v14 v15, k2 = W_n w - i ∧ i ≤ W_n w ∧ E2 = eW w t (own w (stt w sp md i) i) (frm (W_R w) (W_fo w) i) e l c i v10 v11 v12 v13 v14 v15 ∧ (v10.category = 1 ∧ v11.category = 1 ∧ v12.category = 1 ∧ v13.category = 1 ∧ v14.category = 1 ∧ v15.category = 1) ∧ (stt w sp md i ≠ 0 → e = b2 (W_R w (lft (stt w sp md i) i) 0 = 3 ∨ W_R w (lft (stt w sp md i) i) 0 = 4) ∧ l = W_R w (lft (stt w sp md i) i) 3 ∧ c = nI (i - lft (stt w sp md i) i)) ∧ Fr SM h h3 ∧ RM w sp md i h3 := by
        intro ow h6 x fg how ht2 hpw
        refine w_sCe (nI i) (nI (i + 1)) rfl (nI_1 _) rfl ⟨rfl, W_n w - (i + 1), by omega, i + 1, e2, l2, c2, .int (nI (22 * t + i)), .int (nI (kd w i)), .int (W_R w i 1), .int (b2 (s = 0)), .int (nI (lst w i)), .int x, rfl, hi, ?_, ⟨rfl, rfl, rfl, rfl, rfl, rfl⟩, ?_, ff.trans (fg.sub fun a k z => ST2_SM z), ?_⟩
        · rw [hnx, ← how]; rfl
        · rw [hnx]
          intro hz
          obtain ⟨y1, y2, y3, y4⟩ := hpw hz
          rw [lft_s hz, y1, Nat.add_sub_cancel]
          exact ⟨y2, y3, by rw [y4, show i - lft s i + 1 = i + 1 - lft s i by omega]⟩
        · intro k hk
          by_cases hki : k = i
          · subst hki
            rw [hS]
            have g2 : ∀ a, (197 ≤ a ∧ a ≤ 203) → a ≠ 202 → h6.2.1 a k = h5.2.1 a k := fun a z1 z2 => fg.2.2 a k (by unfold ST2 SG; omega)
            refine ⟨(g2 197 (by omega) (by omega)).trans o97, (g2 201 (by omega) (by omega)).trans o01, ht2, (g2 203 (by omega) (by omega)).trans o03, fun hz => ?_⟩
            obtain ⟨p1, p2, p3⟩ := gP (by omega)
            refine ⟨((g2 198 (by omega) (by omega)).trans o98).trans p1, ((g2 199 (by omega) (by omega)).trans o99).trans (by rw [p2]), ((g2 200 (by omega) (by omega)).trans o00).trans p3⟩
          · have g2 : ∀ a, (197 ≤ a ∧ a ≤ 203) → h6.2.1 a k = h'.2.1 a k := fun a z1 => (fg.2.2 a k (by unfold ST2 SG; omega)).trans (ok a k z1 hki)
            obtain ⟨t1, t2, t3, t4, t5⟩ := hR k (by omega)
            rw [g2 197 (by omega), g2 198 (by omega), g2 199 (by omega), g2 200 (by omega), g2 201 (by omega), g2 202 (by omega), g2 203 (by omega)]
            exact ⟨t1, t2, t3, t4, t5⟩
      by_cases hz : hnd w sp i s (md i) = 0
      · have e0 : tlt w sp md i = W_R w i 1 := by rw [htl, hz]; rfl
        have n0 : nxt w sp i s (md i) = 0 := by unfold nxt; rw [if_pos hz]
        rw [e0]
        refine w_lp (fun k E h6 => k = 0 ∧ h6 = h5 ∧ E = eW w t (W_R w i 1) (W_R w i 1) e2 l2 c2 i (.int (nI (22 * t + i))) (.int (nI (kd w i))) (.int (W_R w i 1)) (.int (b2 (s = 0))) (.int (nI (lst w i))) (.int (nI (mth w i + 1)))) ?_ 0 _ _ ⟨rfl, rfl, rfl⟩
        rintro k E h6 ⟨rfl, rfl, rfl⟩
        refine ev_F ?_ ⟨fun _ => ⟨fun _ => ?_, (fun z => by cases z), fun z => absurd rfl z⟩, fun z => (by cases z)⟩
        · simp only [f_mkF, w_sI, w_sR, w_sL, w_sC, w_sk, w_sbr, w_sco, w_rV, w_rI, w_rR, w_rL, w_dI, w_sO, w_sq, w_si, w_pI, w_pZ, w_pR, w_pU, w_qI, w_qB, w_qZ, w_qU, w_qR, w_kV, q_icst, q_lcst, q_xR, q_ldI, q_ldR, q_ldL, q_bn, q_un, q_dv, q_fI, q_fR, q_aI, q_aR, q_aN, q_tn, q_cmp, q_cmz, q_cnt, q_ctt, q_cand, q_cor, q_vn, q_vI, q_vR, q_vL, q_kI, q_kR, q_kL, q_ckI, envN, argE, List.flatMap_cons, List.flatMap_nil, Value.category, junk, oadd, osub, omul, oand, oor, oxor, odiv, orem, oshl, oshr, oushr, omax, omin]; simp [rk_i, rk_b, rk_o, st1, kill, Value.category, rcv, nog]
        · refine hfin _ _ _ (Fr.refl _) (by rw [n0]; rfl) (by rw [o02, htm, if_pos hz]) fun z => absurd n0 z
      · rcases hnd_v w sp i s (md i) with e0 | ⟨e0, hne⟩
        · exact absurd e0 hz
        have hA : ¬ (s = 0 ∧ kd w i ≤ 2) := fun hA => hz (by unfold hnd; rw [if_pos (Or.inl hA)])
        obtain ⟨p1, p2, p3⟩ := gP hA
        have e1 : tlt w sp md i = frm (W_R w) (W_fo w) (lft s i) := by rw [htl, e0]; rfl
        have d96 : h5.2.1 196 i = md i := (ff.2.2 196 i (by unfold SM; omega)).trans (hmd i hi)
        have d41 : h5.2.1 166 41 = nI sp := (ff.2.2 166 41 (by unfold SM; omega)).trans hs1
        rw [e1]
        have gP2 := gP hA
        rw [p1, p2, p3] at hfin ⊢
        rw [p1, p2, p3] at gP2
        refine m_time q6 d41 hs2 hi hL (Ne.symm hne) rfl rfl ?_
        intro h6 x fg ht2
        rw [d96] at ht2 ⊢
        have hnxt : nxt w sp i s (md i) = if (wtm w i (lft s i) (md i)).isSome = true then 0 else lft s i + 1 := by
          unfold nxt
          rw [if_neg hz, e0, Nat.add_sub_cancel]
        have htmi : tmi w sp md i = ofM (wtm w i (lft s i) (md i)) := by
          rw [htm, if_neg hz, e0, Nat.add_sub_cancel]
        refine ⟨fun _ => ?_, (fun z => by cases z), fun z => absurd rfl z⟩
        cases hW : wtm w i (lft s i) (md i) with
        | none =>
          rw [hW] at ht2 hnxt htmi
          refine hfin _ _ _ fg ?_ ?_ fun _ => ⟨by rw [hnxt]; rfl, gP2⟩
          · rw [hnxt]; rfl
          · rw [htmi, ht2, o02]; rfl
        | some m =>
          rw [hW] at ht2 hnxt htmi
          refine hfin _ _ _ fg ?_ ?_ fun z => absurd (by rw [hnxt]; rfl) z
          · rw [hnxt]; rfl
          · rw [htmi, ht2]; rfl
    · have hin : i = W_n w := by omega
      subst hin
      refine ev_F ?_ ⟨fun _ => ⟨rfl, rfl, rfl, f, hR⟩, fun z => (by cases z)⟩
      simp only [f_mkF, w_sI, w_sR, w_sL, w_sC, w_sk, w_sbr, w_sco, w_rV, w_rI, w_rR, w_rL, w_dI, w_sO, w_sq, w_si, w_pI, w_pZ, w_pR, w_pU, w_qI, w_qB, w_qZ, w_qU, w_qR, w_kV, q_icst, q_lcst, q_xR, q_ldI, q_ldR, q_ldL, q_bn, q_un, q_dv, q_fI, q_fR, q_aI, q_aR, q_aN, q_tn, q_cmp, q_cmz, q_cnt, q_ctt, q_cand, q_cor, q_vn, q_vI, q_vR, q_vL, q_kI, q_kR, q_kL, q_ckI, envN, argE, List.flatMap_cons, List.flatMap_nil, Value.category, junk, oadd, osub, omul, oand, oor, oxor, odiv, orem, oshl, oshr, oushr, omax, omin]
      simp (disch := first | omega | simp) [rk_i, rk_b, rk_o, st1, kill, Value.category, rcv, nog, inI_b, nI_clamp, nI_ltI, nI_leI, nI_eq, nI_9, nI_6, nI_22, nI_12, nI_180, nI_add, nI_1]
  · rintro o v E1 h1 ⟨rfl, e0, e4, f, hR⟩
    refine ⟨fun _ => ?_, fun z => absurd rfl z⟩
    have hn1 : h1.1 = 212 := f.1.trans hn0
    simp only [f_mkF, w_sI, w_sR, w_sL, w_sC, w_sk, w_sbr, w_sco, w_rV, w_rI, w_rR, w_rL, w_dI, w_sO, w_sq, w_si, w_pI, w_pZ, w_pR, w_pU, w_qI, w_qB, w_qZ, w_qU, w_qR, w_kV, q_icst, q_lcst, q_xR, q_ldI, q_ldR, q_ldL, q_bn, q_un, q_dv, q_fI, q_fR, q_aI, q_aR, q_aN, q_tn, q_cmp, q_cmz, q_cnt, q_ctt, q_cand, q_cor, q_vn, q_vI, q_vR, q_vL, q_kI, q_kR, q_kL, q_ckI, envN, argE, List.flatMap_cons, List.flatMap_nil, Value.category, junk, oadd, osub, omul, oand, oor, oxor, odiv, orem, oshl, oshr, oushr, omax, omin]
    simp [rk_i, rk_b, rk_o, st1, kill, Value.category, rcv, nog, e0, e4, hn1, ly166]
    refine ⟨f.w (by unfold SM; omega), fun k hk => ?_, by simp [wI_i]⟩
    have := hR k hk
    simp only [wI_i]
    simpa using this
