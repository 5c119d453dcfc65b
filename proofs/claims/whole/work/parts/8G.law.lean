/-! law: the class -/
theorem CC.e {h h' : Hp} {la K c : Nat} {C : List Cd} (e : ∀ a k, la ≤ a → a ≤ la + 4 → h'.2.1 a k = h.2.1 a k) (q : CC h la K c C) : CC h' la K c C := by
  intro i x hx
  rw [e _ _ (by omega) (by omega), e _ _ (by omega) (by omega)]
  exact q i x hx
theorem CLS.e {h h' : Hp} {la : Nat} {A : List Cl} (e : ∀ a k, la ≤ a → a ≤ la + 4 → h'.2.1 a k = h.2.1 a k) (q : CLS h la A) : CLS h' la A := by
  intro j x hj
  obtain ⟨z1, z2, z3, z4⟩ := q j x hj
  refine ⟨?_, ?_, z3.e e, ?_⟩
  · rw [e _ _ (by omega) (by omega)]; exact z1
  · rw [e _ _ (by omega) (by omega)]; exact z2
  · rw [e _ _ (by omega) (by omega)]; exact z4
theorem OL.c {la : Nat} {V : Except Nat (List Cl)} {h h' : Hp} (e : ∀ a k, la ≤ a → a ≤ la + 4 → h'.2.1 a k = h.2.1 a k) (e2 : h'.2.1 146 3 = h.2.1 146 3) (q : OL la V h) : OL la V h' := by
  cases V with
  | error f => exact ⟨by rw [e2]; exact q.1, by rw [e2]; exact q.2⟩
  | ok L =>
    obtain ⟨q1, q2, q3, k, q4, q5, q6⟩ := q
    refine ⟨by rw [e2]; exact q1, ?_, q3.e e, k, q4, ?_, q6⟩
    · rw [e _ _ (by omega) (by omega)]; exact q2
    · rw [e _ _ (by omega) (by omega)]; exact q5
def RLw (l sa lb : Nat) (V : Except Nat (List Cl)) (h h' : Hp) : Prop := match V with
  | .error _ => h'.2.2 = (wR h 146 4 (some sa)).2.2
  | .ok _ => h'.2.2 = (wR (wR (wR h 146 4 (some sa)) 4 l (some sa)) 0 11 (some lb)).2.2
theorem neg_FB {e f : Nat} (he : e ≤ 200) (h : FB e f) : -(nI f) < 0 := by
  unfold FB at h
  rw [Int32.lt_iff_toInt_lt, Int32.toInt_neg, nI_toInt (by omega), i32_0]
  rw [Int.bmod_def]
  omega
theorem x_law {s : Nat → Nat} {h : Hp} (hp : Ip h) {l n tp sa lb : Nat} (hl : l < 6) (n1 : 1 ≤ n) (n160 : n ≤ 160) (htp : h.2.1 12 1 = nI tp) (ht2 : n ≤ tp) (ht3 : tp ≤ 200) (hsa : h.2.2 0 11 = some sa) (hA : lawA sa) (hlb : h.2.2 4 l = some lb) (hB : lawA lb) (hb : ∀ p, p < n → oand (h.2.1 13 p) 255 = nI (s p)) (hs : ∀ p, s p < 256) (hz : ∀ p, n ≤ p → s p = 0) : fq F_X10_law [.ref 0, .int (nI l), .int (nI n)] h fun r h' => r = some (.int (ansP (lawP s n 13 0 0 0))) ∧ h'.1 = 212 ∧ (∀ a k, ¬ SE sa a k → ¬ (a = 12 ∧ k = 1) → h'.2.1 a k = h.2.1 a k) ∧ h'.2.1 12 1 = 0 ∧ OL sa (lawP s n 13 0 0 0) h' ∧ RLw l sa lb (lawP s n 13 0 0 0) h h' := by
  have hn := hp.1
  have v3 : h.2.2 0 3 = some 4 := hp.2.1.at 3 rfl
  have v5 : h.2.2 0 5 = some 12 := hp.2.1.at 5 rfl
  have v6 : h.2.2 0 6 = some 146 := hp.2.1.at 6 rfl
  have v0 : h.2.2 146 0 = some 13 := hp.2.1.at 62 rfl
  have hy := law_y hA
  have hyb := law_y hB
  obtain ⟨rd, h1, er, rfl, g1, g2, g3, g4⟩ := x_read hn hA v0 (law_p hp hA).1 n160 hb hs hz
  have hF : ∀ f, lawP s n 13 0 0 0 = .error f → FB n f := fun f z => EB_law hz _ _ _ _ _ (by omega) z
  have hL : ∀ A, lawP s n 13 0 0 0 = .ok A → A.length ≤ 12 := fun A z => by have := (lawP_p hs hz _ _ _ _ _ z).2; omega
  generalize lawP s n 13 0 0 0 = V at *
  have e1 := e_x_isLand (nI l) h
  rw [b2_1.mpr ⟨nI_0le (by omega), (nI_leI (a := l) (b := 5) (by omega) (by omega)).mpr (by omega)⟩] at e1
  have e2 := e_x_isWithin (nI n) 1 160 h
  rw [b2_1.mpr ⟨nI_1le n1 (by omega), (nI_leI (a := n) (b := 160) (by omega) (by omega)).mpr (by omega)⟩] at e2
  have r3 : h1.2.2 0 3 = some 4 := by rw [g2, wR_r, if_neg (by omega)]; exact v3
  have r5 : h1.2.2 0 5 = some 12 := by rw [g2, wR_r, if_neg (by omega)]; exact v5
  have r11 : h1.2.2 0 11 = some sa := by rw [g2, wR_r, if_neg (by omega)]; exact hsa
  have rl : h1.2.2 4 l = some lb := by rw [g2, wR_r, if_neg (by omega)]; exact hlb
  unfold F_X10_law
  refine f_mkE [.ref 0, .int (nI l), .int (nI n), junk, junk] rfl (by simp [argE, Value.category]) ?_
  refine w_sq.mpr ((w_siF (by simp only [f_mkF, w_sI, w_sR, w_sL, w_sC, w_sk, w_sbr, w_sco, w_rV, w_rI, w_rR, w_rL, w_dI, w_sO, w_sq, w_si, w_pI, w_pZ, w_pR, w_pU, w_qI, w_qB, w_qZ, w_qU, w_qR, w_kV, q_icst, q_lcst, q_xR, q_ldI, q_ldR, q_ldL, q_bn, q_un, q_dv, q_fI, q_fR, q_aI, q_aR, q_aN, q_tn, q_cmp, q_cmz, q_cnt, q_ctt, q_cand, q_cor, q_vn, q_vI, q_vR, q_vL, q_kI, q_kR, q_kL, q_ckI, envN, argE, List.flatMap_cons, List.flatMap_nil, Value.category, junk, oadd, osub, omul, oand, oor, oxor, odiv, orem, oshl, oshr, oushr, omax, omin]; simp (disch := first | omega | simp) [rk_i, rk_b, rk_o, st1, kill, Value.category, rcv, nog, inI_b, nI_clamp, nI_ltI, nI_leI, nI_eq, nI_9, nI_6, nI_22, nI_12, nI_180, nI_add, nI_1, hn, ly0, ly12, v5, fq_of e1, fq_of e2, htp, ht2])).mpr (w_sk2.mpr ?_))
  refine w_sqN (w_sIh (E' := [.ref 0, .int (nI l), .int (nI n), .int (ansP V), junk]) (ansP V) h1 (by simp only [f_mkF, w_sI, w_sR, w_sL, w_sC, w_sk, w_sbr, w_sco, w_rV, w_rI, w_rR, w_rL, w_dI, w_sO, w_sq, w_si, w_pI, w_pZ, w_pR, w_pU, w_qI, w_qB, w_qZ, w_qU, w_qR, w_kV, q_icst, q_lcst, q_xR, q_ldI, q_ldR, q_ldL, q_bn, q_un, q_dv, q_fI, q_fR, q_aI, q_aR, q_aN, q_tn, q_cmp, q_cmz, q_cnt, q_ctt, q_cand, q_cor, q_vn, q_vI, q_vR, q_vL, q_kI, q_kR, q_kL, q_ckI, envN, argE, List.flatMap_cons, List.flatMap_nil, Value.category, junk, oadd, osub, omul, oand, oor, oxor, odiv, orem, oshl, oshr, oushr, omax, omin]; simp (disch := first | omega | simp) [rk_i, rk_b, rk_o, st1, kill, Value.category, rcv, nog, hn, ly0, ly146, v6, hsa, fq_of er]) rfl ⟨rfl, ?_⟩)
  refine w_sqS (fun E1 h2 => E1 = [.ref 0, .int (nI l), .int (nI n), .int (ansP V), junk] ∧ h2 = wI h1 12 1 0) (by simp only [f_mkF, w_sI, w_sR, w_sL, w_sC, w_sk, w_sbr, w_sco, w_rV, w_rI, w_rR, w_rL, w_dI, w_sO, w_sq, w_si, w_pI, w_pZ, w_pR, w_pU, w_qI, w_qB, w_qZ, w_qU, w_qR, w_kV, q_icst, q_lcst, q_xR, q_ldI, q_ldR, q_ldL, q_bn, q_un, q_dv, q_fI, q_fR, q_aI, q_aR, q_aN, q_tn, q_cmp, q_cmz, q_cnt, q_ctt, q_cand, q_cor, q_vn, q_vI, q_vR, q_vL, q_kI, q_kR, q_kL, q_ckI, envN, argE, List.flatMap_cons, List.flatMap_nil, Value.category, junk, oadd, osub, omul, oand, oor, oxor, odiv, orem, oshl, oshr, oushr, omax, omin]; simp (disch := first | omega | simp) [rk_i, rk_b, rk_o, st1, kill, Value.category, rcv, nog, wI_1, wI_r, nI_1, g1, ly0, ly12, r5]) ?_
  rintro E1 h2 ⟨rfl, rfl⟩
  have c1 : ∀ a k, ¬ SE sa a k → ¬ (a = 12 ∧ k = 1) → (wI h1 12 1 0).2.1 a k = h.2.1 a k := fun a k z1 z2 => by rw [wI_i, if_neg z2]; exact g3 a k z1
  have c2 : (wI h1 12 1 0).2.1 12 1 = 0 := by rw [wI_i, if_pos ⟨rfl, rfl⟩]
  have c3 : OL sa V (wI h1 12 1 0) := g4.c (fun a k z1 z2 => by rw [wI_i, if_neg (by omega)]) (by rw [wI_i, if_neg (by omega)])
  have c4 : (wI h1 12 1 0).1 = 212 := g1
  have c5 : (wI h1 12 1 0).2.2 = h1.2.2 := rfl
  generalize wI h1 12 1 0 = h2 at *
  rw [← c5] at r3 r5 r11 rl g2
  cases V with
  | error f =>
    have ng := neg_FB (by omega) (hF f rfl)
    refine w_sq.mpr ((w_siF (by simp only [f_mkF, w_sI, w_sR, w_sL, w_sC, w_sk, w_sbr, w_sco, w_rV, w_rI, w_rR, w_rL, w_dI, w_sO, w_sq, w_si, w_pI, w_pZ, w_pR, w_pU, w_qI, w_qB, w_qZ, w_qU, w_qR, w_kV, q_icst, q_lcst, q_xR, q_ldI, q_ldR, q_ldL, q_bn, q_un, q_dv, q_fI, q_fR, q_aI, q_aR, q_aN, q_tn, q_cmp, q_cmz, q_cnt, q_ctt, q_cand, q_cor, q_vn, q_vI, q_vR, q_vL, q_kI, q_kR, q_kL, q_ckI, envN, argE, List.flatMap_cons, List.flatMap_nil, Value.category, junk, oadd, osub, omul, oand, oor, oxor, odiv, orem, oshl, oshr, oushr, omax, omin]; simp (disch := first | omega | simp) [rk_i, rk_b, rk_o, st1, kill, Value.category, rcv, nog, ansP, ng])).mpr (w_sk2.mpr ?_))
    simp only [f_mkF, w_sI, w_sR, w_sL, w_sC, w_sk, w_sbr, w_sco, w_rV, w_rI, w_rR, w_rL, w_dI, w_sO, w_sq, w_si, w_pI, w_pZ, w_pR, w_pU, w_qI, w_qB, w_qZ, w_qU, w_qR, w_kV, q_icst, q_lcst, q_xR, q_ldI, q_ldR, q_ldL, q_bn, q_un, q_dv, q_fI, q_fR, q_aI, q_aR, q_aN, q_tn, q_cmp, q_cmz, q_cnt, q_ctt, q_cand, q_cor, q_vn, q_vI, q_vR, q_vL, q_kI, q_kR, q_kL, q_ckI, envN, argE, List.flatMap_cons, List.flatMap_nil, Value.category, junk, oadd, osub, omul, oand, oor, oxor, odiv, orem, oshl, oshr, oushr, omax, omin]
    simp
    exact ⟨rfl, c4, fun a k z1 z2 => c1 a k z1 fun w => z2 w.1 w.2, c2, c3, g2⟩
  | ok A =>
    have ng : 0 ≤ nI A.length := nI_pos' (by have := hL A rfl; omega)
    refine w_sq.mpr ((w_siT (by simp only [f_mkF, w_sI, w_sR, w_sL, w_sC, w_sk, w_sbr, w_sco, w_rV, w_rI, w_rR, w_rL, w_dI, w_sO, w_sq, w_si, w_pI, w_pZ, w_pR, w_pU, w_qI, w_qB, w_qZ, w_qU, w_qR, w_kV, q_icst, q_lcst, q_xR, q_ldI, q_ldR, q_ldL, q_bn, q_un, q_dv, q_fI, q_fR, q_aI, q_aR, q_aN, q_tn, q_cmp, q_cmz, q_cnt, q_ctt, q_cand, q_cor, q_vn, q_vI, q_vR, q_vL, q_kI, q_kR, q_kL, q_ckI, envN, argE, List.flatMap_cons, List.flatMap_nil, Value.category, junk, oadd, osub, omul, oand, oor, oxor, odiv, orem, oshl, oshr, oushr, omax, omin]; simp (disch := first | omega | simp) [rk_i, rk_b, rk_o, st1, kill, Value.category, rcv, nog, ansP, ng])).mpr ?_)
    simp only [f_mkF, w_sI, w_sR, w_sL, w_sC, w_sk, w_sbr, w_sco, w_rV, w_rI, w_rR, w_rL, w_dI, w_sO, w_sq, w_si, w_pI, w_pZ, w_pR, w_pU, w_qI, w_qB, w_qZ, w_qU, w_qR, w_kV, q_icst, q_lcst, q_xR, q_ldI, q_ldR, q_ldL, q_bn, q_un, q_dv, q_fI, q_fR, q_aI, q_aR, q_aN, q_tn, q_cmp, q_cmz, q_cnt, q_ctt, q_cand, q_cor, q_vn, q_vI, q_vR, q_vL, q_kI, q_kR, q_kL, q_ckI, envN, argE, List.flatMap_cons, List.flatMap_nil, Value.category, junk, oadd, osub, omul, oand, oor, oxor, odiv, orem, oshl, oshr, oushr, omax, omin]
    have hsl : sa < 212 := by omega
    simp (disch := first | omega | simp) [rk_i, rk_b, rk_o, st1, kill, Value.category, rcv, nog, wI_1, wI_r, nI_1, inI_b, nI_clamp, nI_ltI, nI_leI, nI_eq, nI_9, nI_6, nI_22, nI_12, nI_180, nI_add, nI_1, c4, ly0, ly4, r3, r11, rl, hl, wR_1, wR_r, hy.1, hsl]
    refine ⟨fun a k z1 z2 => c1 a k z1 fun w => z2 w.1 w.2, c2, c3.c (fun _ _ _ _ => rfl) rfl, ?_⟩
    show (wR (wR h2 4 l (some sa)) 0 11 (some lb)).2.2 = (wR (wR (wR h 146 4 (some sa)) 4 l (some sa)) 0 11 (some lb)).2.2
    funext a k
    rw [wR_r, wR_r, wR_r, wR_r, g2]
